theorem ck_246 : prg_246.all (chk 246) = true := by
  unfold prg_246
  simp only [List.all_append, ck_246_0, ck_246_1, ck_246_2, ck_246_3, ck_246_4, ck_246_5, ck_246_6, ck_246_7, ck_246_8, ck_246_9, Bool.and_self]
