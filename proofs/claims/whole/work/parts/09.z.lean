theorem pm_lens : ((List.range 224).all fun k => (pm_CODE k).length == (pm_mt k).2.2.2.2.length) = true := by decide +kernel
def pm_h7 (d : Nat) (q : pI) : Bool := match q.1, q.2.1 with
  | .invokevirtual _, [] => decide (7 ≤ d)
  | _, _ => true
theorem pm_h7s : ((List.range 224).all fun k => (pm_CODE k).all (pm_h7 (pm_inf k).2.2.2)) = true := by decide +kernel
theorem pm_mw {k : Nat} (h : k < 224) : pm_mwc k = true := by
  rcases Nat.lt_or_ge k 12 with h0 | h0
  · have q := List.all_eq_true.mp pm_mw_0 (k - 0) (List.mem_range.mpr (by omega))
    rwa [show k - 0 + 0 = k by omega] at q
  rcases Nat.lt_or_ge k 24 with h12 | h12
  · have q := List.all_eq_true.mp pm_mw_1 (k - 12) (List.mem_range.mpr (by omega))
    rwa [show k - 12 + 12 = k by omega] at q
  rcases Nat.lt_or_ge k 35 with h24 | h24
  · have q := List.all_eq_true.mp pm_mw_2 (k - 24) (List.mem_range.mpr (by omega))
    rwa [show k - 24 + 24 = k by omega] at q
  rcases Nat.lt_or_ge k 47 with h35 | h35
  · have q := List.all_eq_true.mp pm_mw_3 (k - 35) (List.mem_range.mpr (by omega))
    rwa [show k - 35 + 35 = k by omega] at q
  rcases Nat.lt_or_ge k 59 with h47 | h47
  · have q := List.all_eq_true.mp pm_mw_4 (k - 47) (List.mem_range.mpr (by omega))
    rwa [show k - 47 + 47 = k by omega] at q
  rcases Nat.lt_or_ge k 71 with h59 | h59
  · have q := List.all_eq_true.mp pm_mw_5 (k - 59) (List.mem_range.mpr (by omega))
    rwa [show k - 59 + 59 = k by omega] at q
  rcases Nat.lt_or_ge k 79 with h71 | h71
  · have q := List.all_eq_true.mp pm_mw_6 (k - 71) (List.mem_range.mpr (by omega))
    rwa [show k - 71 + 71 = k by omega] at q
  rcases Nat.lt_or_ge k 91 with h79 | h79
  · have q := List.all_eq_true.mp pm_mw_7 (k - 79) (List.mem_range.mpr (by omega))
    rwa [show k - 79 + 79 = k by omega] at q
  rcases Nat.lt_or_ge k 103 with h91 | h91
  · have q := List.all_eq_true.mp pm_mw_8 (k - 91) (List.mem_range.mpr (by omega))
    rwa [show k - 91 + 91 = k by omega] at q
  rcases Nat.lt_or_ge k 115 with h103 | h103
  · have q := List.all_eq_true.mp pm_mw_9 (k - 103) (List.mem_range.mpr (by omega))
    rwa [show k - 103 + 103 = k by omega] at q
  rcases Nat.lt_or_ge k 127 with h115 | h115
  · have q := List.all_eq_true.mp pm_mw_10 (k - 115) (List.mem_range.mpr (by omega))
    rwa [show k - 115 + 115 = k by omega] at q
  rcases Nat.lt_or_ge k 139 with h127 | h127
  · have q := List.all_eq_true.mp pm_mw_11 (k - 127) (List.mem_range.mpr (by omega))
    rwa [show k - 127 + 127 = k by omega] at q
  rcases Nat.lt_or_ge k 151 with h139 | h139
  · have q := List.all_eq_true.mp pm_mw_12 (k - 139) (List.mem_range.mpr (by omega))
    rwa [show k - 139 + 139 = k by omega] at q
  rcases Nat.lt_or_ge k 163 with h151 | h151
  · have q := List.all_eq_true.mp pm_mw_13 (k - 151) (List.mem_range.mpr (by omega))
    rwa [show k - 151 + 151 = k by omega] at q
  rcases Nat.lt_or_ge k 174 with h163 | h163
  · have q := List.all_eq_true.mp pm_mw_14 (k - 163) (List.mem_range.mpr (by omega))
    rwa [show k - 163 + 163 = k by omega] at q
  rcases Nat.lt_or_ge k 175 with h174 | h174
  · have q := List.all_eq_true.mp pm_mw_15 (k - 174) (List.mem_range.mpr (by omega))
    rwa [show k - 174 + 174 = k by omega] at q
  rcases Nat.lt_or_ge k 187 with h175 | h175
  · have q := List.all_eq_true.mp pm_mw_16 (k - 175) (List.mem_range.mpr (by omega))
    rwa [show k - 175 + 175 = k by omega] at q
  rcases Nat.lt_or_ge k 188 with h187 | h187
  · have q := List.all_eq_true.mp pm_mw_17 (k - 187) (List.mem_range.mpr (by omega))
    rwa [show k - 187 + 187 = k by omega] at q
  rcases Nat.lt_or_ge k 190 with h188 | h188
  · have q := List.all_eq_true.mp pm_mw_18 (k - 188) (List.mem_range.mpr (by omega))
    rwa [show k - 188 + 188 = k by omega] at q
  rcases Nat.lt_or_ge k 191 with h190 | h190
  · have q := List.all_eq_true.mp pm_mw_19 (k - 190) (List.mem_range.mpr (by omega))
    rwa [show k - 190 + 190 = k by omega] at q
  rcases Nat.lt_or_ge k 192 with h191 | h191
  · have q := List.all_eq_true.mp pm_mw_20 (k - 191) (List.mem_range.mpr (by omega))
    rwa [show k - 191 + 191 = k by omega] at q
  rcases Nat.lt_or_ge k 193 with h192 | h192
  · have q := List.all_eq_true.mp pm_mw_21 (k - 192) (List.mem_range.mpr (by omega))
    rwa [show k - 192 + 192 = k by omega] at q
  rcases Nat.lt_or_ge k 203 with h193 | h193
  · have q := List.all_eq_true.mp pm_mw_22 (k - 193) (List.mem_range.mpr (by omega))
    rwa [show k - 193 + 193 = k by omega] at q
  rcases Nat.lt_or_ge k 206 with h203 | h203
  · have q := List.all_eq_true.mp pm_mw_23 (k - 203) (List.mem_range.mpr (by omega))
    rwa [show k - 203 + 203 = k by omega] at q
  rcases Nat.lt_or_ge k 208 with h206 | h206
  · have q := List.all_eq_true.mp pm_mw_24 (k - 206) (List.mem_range.mpr (by omega))
    rwa [show k - 206 + 206 = k by omega] at q
  rcases Nat.lt_or_ge k 209 with h208 | h208
  · have q := List.all_eq_true.mp pm_mw_25 (k - 208) (List.mem_range.mpr (by omega))
    rwa [show k - 208 + 208 = k by omega] at q
  rcases Nat.lt_or_ge k 221 with h209 | h209
  · have q := List.all_eq_true.mp pm_mw_26 (k - 209) (List.mem_range.mpr (by omega))
    rwa [show k - 209 + 209 = k by omega] at q
  rcases Nat.lt_or_ge k 224 with h221 | h221
  · have q := List.all_eq_true.mp pm_mw_27 (k - 221) (List.mem_range.mpr (by omega))
    rwa [show k - 221 + 221 = k by omega] at q
  omega
theorem pm_ck {k : Nat} (h : k < 224) : pm_mchk k = true := by
  rcases Nat.lt_or_ge k 12 with h0 | h0
  · have q := List.all_eq_true.mp pm_ck_0 (k - 0) (List.mem_range.mpr (by omega))
    rwa [show k - 0 + 0 = k by omega] at q
  rcases Nat.lt_or_ge k 24 with h12 | h12
  · have q := List.all_eq_true.mp pm_ck_1 (k - 12) (List.mem_range.mpr (by omega))
    rwa [show k - 12 + 12 = k by omega] at q
  rcases Nat.lt_or_ge k 35 with h24 | h24
  · have q := List.all_eq_true.mp pm_ck_2 (k - 24) (List.mem_range.mpr (by omega))
    rwa [show k - 24 + 24 = k by omega] at q
  rcases Nat.lt_or_ge k 47 with h35 | h35
  · have q := List.all_eq_true.mp pm_ck_3 (k - 35) (List.mem_range.mpr (by omega))
    rwa [show k - 35 + 35 = k by omega] at q
  rcases Nat.lt_or_ge k 59 with h47 | h47
  · have q := List.all_eq_true.mp pm_ck_4 (k - 47) (List.mem_range.mpr (by omega))
    rwa [show k - 47 + 47 = k by omega] at q
  rcases Nat.lt_or_ge k 71 with h59 | h59
  · have q := List.all_eq_true.mp pm_ck_5 (k - 59) (List.mem_range.mpr (by omega))
    rwa [show k - 59 + 59 = k by omega] at q
  rcases Nat.lt_or_ge k 79 with h71 | h71
  · have q := List.all_eq_true.mp pm_ck_6 (k - 71) (List.mem_range.mpr (by omega))
    rwa [show k - 71 + 71 = k by omega] at q
  rcases Nat.lt_or_ge k 91 with h79 | h79
  · have q := List.all_eq_true.mp pm_ck_7 (k - 79) (List.mem_range.mpr (by omega))
    rwa [show k - 79 + 79 = k by omega] at q
  rcases Nat.lt_or_ge k 103 with h91 | h91
  · have q := List.all_eq_true.mp pm_ck_8 (k - 91) (List.mem_range.mpr (by omega))
    rwa [show k - 91 + 91 = k by omega] at q
  rcases Nat.lt_or_ge k 115 with h103 | h103
  · have q := List.all_eq_true.mp pm_ck_9 (k - 103) (List.mem_range.mpr (by omega))
    rwa [show k - 103 + 103 = k by omega] at q
  rcases Nat.lt_or_ge k 127 with h115 | h115
  · have q := List.all_eq_true.mp pm_ck_10 (k - 115) (List.mem_range.mpr (by omega))
    rwa [show k - 115 + 115 = k by omega] at q
  rcases Nat.lt_or_ge k 139 with h127 | h127
  · have q := List.all_eq_true.mp pm_ck_11 (k - 127) (List.mem_range.mpr (by omega))
    rwa [show k - 127 + 127 = k by omega] at q
  rcases Nat.lt_or_ge k 151 with h139 | h139
  · have q := List.all_eq_true.mp pm_ck_12 (k - 139) (List.mem_range.mpr (by omega))
    rwa [show k - 139 + 139 = k by omega] at q
  rcases Nat.lt_or_ge k 163 with h151 | h151
  · have q := List.all_eq_true.mp pm_ck_13 (k - 151) (List.mem_range.mpr (by omega))
    rwa [show k - 151 + 151 = k by omega] at q
  rcases Nat.lt_or_ge k 174 with h163 | h163
  · have q := List.all_eq_true.mp pm_ck_14 (k - 163) (List.mem_range.mpr (by omega))
    rwa [show k - 163 + 163 = k by omega] at q
  rcases Nat.lt_or_ge k 175 with h174 | h174
  · have q := List.all_eq_true.mp pm_ck_15 (k - 174) (List.mem_range.mpr (by omega))
    rwa [show k - 174 + 174 = k by omega] at q
  rcases Nat.lt_or_ge k 187 with h175 | h175
  · have q := List.all_eq_true.mp pm_ck_16 (k - 175) (List.mem_range.mpr (by omega))
    rwa [show k - 175 + 175 = k by omega] at q
  rcases Nat.lt_or_ge k 188 with h187 | h187
  · have q := List.all_eq_true.mp pm_ck_17 (k - 187) (List.mem_range.mpr (by omega))
    rwa [show k - 187 + 187 = k by omega] at q
  rcases Nat.lt_or_ge k 190 with h188 | h188
  · have q := List.all_eq_true.mp pm_ck_18 (k - 188) (List.mem_range.mpr (by omega))
    rwa [show k - 188 + 188 = k by omega] at q
  rcases Nat.lt_or_ge k 191 with h190 | h190
  · have q := List.all_eq_true.mp pm_ck_19 (k - 190) (List.mem_range.mpr (by omega))
    rwa [show k - 190 + 190 = k by omega] at q
  rcases Nat.lt_or_ge k 192 with h191 | h191
  · have q := List.all_eq_true.mp pm_ck_20 (k - 191) (List.mem_range.mpr (by omega))
    rwa [show k - 191 + 191 = k by omega] at q
  rcases Nat.lt_or_ge k 193 with h192 | h192
  · have q := List.all_eq_true.mp pm_ck_21 (k - 192) (List.mem_range.mpr (by omega))
    rwa [show k - 192 + 192 = k by omega] at q
  rcases Nat.lt_or_ge k 203 with h193 | h193
  · have q := List.all_eq_true.mp pm_ck_22 (k - 193) (List.mem_range.mpr (by omega))
    rwa [show k - 193 + 193 = k by omega] at q
  rcases Nat.lt_or_ge k 206 with h203 | h203
  · have q := List.all_eq_true.mp pm_ck_23 (k - 203) (List.mem_range.mpr (by omega))
    rwa [show k - 203 + 203 = k by omega] at q
  rcases Nat.lt_or_ge k 208 with h206 | h206
  · have q := List.all_eq_true.mp pm_ck_24 (k - 206) (List.mem_range.mpr (by omega))
    rwa [show k - 206 + 206 = k by omega] at q
  rcases Nat.lt_or_ge k 209 with h208 | h208
  · have q := List.all_eq_true.mp pm_ck_25 (k - 208) (List.mem_range.mpr (by omega))
    rwa [show k - 208 + 208 = k by omega] at q
  rcases Nat.lt_or_ge k 221 with h209 | h209
  · have q := List.all_eq_true.mp pm_ck_26 (k - 209) (List.mem_range.mpr (by omega))
    rwa [show k - 209 + 209 = k by omega] at q
  rcases Nat.lt_or_ge k 224 with h221 | h221
  · have q := List.all_eq_true.mp pm_ck_27 (k - 221) (List.mem_range.mpr (by omega))
    rwa [show k - 221 + 221 = k by omega] at q
  omega
