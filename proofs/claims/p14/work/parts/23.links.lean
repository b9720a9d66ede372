theorem wl_0_0 : ml_0_0.all (pd_chkW 0) = true := by decide +kernel
theorem wl_0 : ml_0.all (pd_chkW 0) = true := by
  unfold ml_0
  simp only [List.all_append, wl_0_0, Bool.and_self, List.all_nil]
theorem wl_1_0 : ml_1_0.all (pd_chkW 1) = true := by decide +kernel
theorem wl_1 : ml_1.all (pd_chkW 1) = true := by
  unfold ml_1
  simp only [List.all_append, wl_1_0, Bool.and_self, List.all_nil]
theorem wl_2_0 : ml_2_0.all (pd_chkW 2) = true := by decide +kernel
theorem wl_2 : ml_2.all (pd_chkW 2) = true := by
  unfold ml_2
  simp only [List.all_append, wl_2_0, Bool.and_self, List.all_nil]
theorem wl_3_0 : ml_3_0.all (pd_chkW 3) = true := by decide +kernel
theorem wl_3 : ml_3.all (pd_chkW 3) = true := by
  unfold ml_3
  simp only [List.all_append, wl_3_0, Bool.and_self, List.all_nil]
theorem wl_4_0 : ml_4_0.all (pd_chkW 4) = true := by decide +kernel
theorem wl_4 : ml_4.all (pd_chkW 4) = true := by
  unfold ml_4
  simp only [List.all_append, wl_4_0, Bool.and_self, List.all_nil]
theorem wl_5_0 : ml_5_0.all (pd_chkW 5) = true := by decide +kernel
theorem wl_5 : ml_5.all (pd_chkW 5) = true := by
  unfold ml_5
  simp only [List.all_append, wl_5_0, Bool.and_self, List.all_nil]
theorem wl_6_0 : ml_6_0.all (pd_chkW 6) = true := by decide +kernel
theorem wl_6 : ml_6.all (pd_chkW 6) = true := by
  unfold ml_6
  simp only [List.all_append, wl_6_0, Bool.and_self, List.all_nil]
theorem wl_7_0 : ml_7_0.all (pd_chkW 7) = true := by decide +kernel
theorem wl_7 : ml_7.all (pd_chkW 7) = true := by
  unfold ml_7
  simp only [List.all_append, wl_7_0, Bool.and_self, List.all_nil]
theorem wl_8_0 : ml_8_0.all (pd_chkW 8) = true := by decide +kernel
theorem wl_8 : ml_8.all (pd_chkW 8) = true := by
  unfold ml_8
  simp only [List.all_append, wl_8_0, Bool.and_self, List.all_nil]
theorem wl_9_0 : ml_9_0.all (pd_chkW 9) = true := by decide +kernel
theorem wl_9 : ml_9.all (pd_chkW 9) = true := by
  unfold ml_9
  simp only [List.all_append, wl_9_0, Bool.and_self, List.all_nil]
theorem wl_10_0 : ml_10_0.all (pd_chkW 10) = true := by decide +kernel
theorem wl_10_1 : ml_10_1.all (pd_chkW 10) = true := by decide +kernel
theorem wl_10_2 : ml_10_2.all (pd_chkW 10) = true := by decide +kernel
theorem wl_10_3 : ml_10_3.all (pd_chkW 10) = true := by decide +kernel
theorem wl_10_4 : ml_10_4.all (pd_chkW 10) = true := by decide +kernel
theorem wl_10 : ml_10.all (pd_chkW 10) = true := by
  unfold ml_10
  simp only [List.all_append, wl_10_0, wl_10_1, wl_10_2, wl_10_3, wl_10_4, Bool.and_self, List.all_nil]
theorem wl_11_0 : ml_11_0.all (pd_chkW 11) = true := by decide +kernel
theorem wl_11_1 : ml_11_1.all (pd_chkW 11) = true := by decide +kernel
theorem wl_11_2 : ml_11_2.all (pd_chkW 11) = true := by decide +kernel
theorem wl_11_3 : ml_11_3.all (pd_chkW 11) = true := by decide +kernel
theorem wl_11 : ml_11.all (pd_chkW 11) = true := by
  unfold ml_11
  simp only [List.all_append, wl_11_0, wl_11_1, wl_11_2, wl_11_3, Bool.and_self, List.all_nil]
theorem wl_12 : ml_12.all (pd_chkW 12) = true := by
  unfold ml_12
  simp only [List.all_append, Bool.and_self, List.all_nil]
theorem wl_13_0 : ml_13_0.all (pd_chkW 13) = true := by decide +kernel
theorem wl_13_1 : ml_13_1.all (pd_chkW 13) = true := by decide +kernel
theorem wl_13_2 : ml_13_2.all (pd_chkW 13) = true := by decide +kernel
theorem wl_13_3 : ml_13_3.all (pd_chkW 13) = true := by decide +kernel
theorem wl_13_4 : ml_13_4.all (pd_chkW 13) = true := by decide +kernel
theorem wl_13 : ml_13.all (pd_chkW 13) = true := by
  unfold ml_13
  simp only [List.all_append, wl_13_0, wl_13_1, wl_13_2, wl_13_3, wl_13_4, Bool.and_self, List.all_nil]
theorem pd_W : pm_allI (fun o l => l.all (pd_chkW o)) 0 pd_ML = true := by
  unfold pd_ML
  simp only [pm_allI, Nat.zero_add, Nat.reduceAdd, wl_0, wl_1, wl_2, wl_3, wl_4, wl_5, wl_6, wl_7, wl_8, wl_9, wl_10, wl_11, wl_12, wl_13, Bool.and_self]
