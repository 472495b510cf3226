theorem tg_p {y : MethodName} {k : Nat} (j : Nat) (h : lw_privs[j]? = some (y, k)) : Cond.selects y.cls y y ∈ tbG := tg_s (q := (y, k)) (List.mem_of_getElem? h)
theorem in_Bk : ∀ w ∈ u_ws R_Bk T_Bk 7, w ∈ tbG := by
  intro w hw
  obtain ⟨k, hk, rfl⟩ := List.mem_map.mp hw
  have hk := List.mem_range.mp hk
  rcases (show k = 0 ∨ k = 1 ∨ k = 2 ∨ k = 3 ∨ k = 4 ∨ k = 5 ∨ k = 6 by omega) with rfl | rfl | rfl | rfl | rfl | rfl | rfl
  · exact tg1 190 (by decide +kernel) (by decide +kernel)
  · exact tg1 192 (by decide +kernel) (by decide +kernel)
  · exact tg1 194 (by decide +kernel) (by decide +kernel)
  · exact tg1 196 (by decide +kernel) (by decide +kernel)
  · exact tg1 198 (by decide +kernel) (by decide +kernel)
  · exact tg1 200 (by decide +kernel) (by decide +kernel)
  · exact tg1 202 (by decide +kernel) (by decide +kernel)
theorem in_Ch : ∀ w ∈ u_ws R_Ch T_Ch 5, w ∈ tbG := by
  intro w hw
  obtain ⟨k, hk, rfl⟩ := List.mem_map.mp hw
  have hk := List.mem_range.mp hk
  rcases (show k = 0 ∨ k = 1 ∨ k = 2 ∨ k = 3 ∨ k = 4 by omega) with rfl | rfl | rfl | rfl | rfl
  · exact tg2 22 (by decide +kernel) (by decide +kernel)
  · exact tg2 24 (by decide +kernel) (by decide +kernel)
  · exact tg2 26 (by decide +kernel) (by decide +kernel)
  · exact tg2 28 (by decide +kernel) (by decide +kernel)
  · exact tg2 30 (by decide +kernel) (by decide +kernel)
theorem in_Hi : ∀ w ∈ u_ws R_Hi T_Hi 3, w ∈ tbG := by
  intro w hw
  obtain ⟨k, hk, rfl⟩ := List.mem_map.mp hw
  have hk := List.mem_range.mp hk
  rcases (show k = 0 ∨ k = 1 ∨ k = 2 by omega) with rfl | rfl | rfl
  · exact tg1 218 (by decide +kernel) (by decide +kernel)
  · exact tg1 220 (by decide +kernel) (by decide +kernel)
  · exact tg1 222 (by decide +kernel) (by decide +kernel)
theorem in_Of : ∀ w ∈ u_ws R_Of T_Of 6, w ∈ tbG := by
  intro w hw
  obtain ⟨k, hk, rfl⟩ := List.mem_map.mp hw
  have hk := List.mem_range.mp hk
  rcases (show k = 0 ∨ k = 1 ∨ k = 2 ∨ k = 3 ∨ k = 4 ∨ k = 5 by omega) with rfl | rfl | rfl | rfl | rfl | rfl
  · exact tg1 112 (by decide +kernel) (by decide +kernel)
  · exact tg1 114 (by decide +kernel) (by decide +kernel)
  · exact tg1 116 (by decide +kernel) (by decide +kernel)
  · exact tg1 118 (by decide +kernel) (by decide +kernel)
  · exact tg1 120 (by decide +kernel) (by decide +kernel)
  · exact tg1 122 (by decide +kernel) (by decide +kernel)
theorem in_Ro : ∀ w ∈ u_ws R_Ro T_Ro 9, w ∈ tbG := by
  intro w hw
  obtain ⟨k, hk, rfl⟩ := List.mem_map.mp hw
  have hk := List.mem_range.mp hk
  rcases (show k = 0 ∨ k = 1 ∨ k = 2 ∨ k = 3 ∨ k = 4 ∨ k = 5 ∨ k = 6 ∨ k = 7 ∨ k = 8 by omega) with rfl | rfl | rfl | rfl | rfl | rfl | rfl | rfl | rfl
  · exact tg1 69 (by decide +kernel) (by decide +kernel)
  · exact tg1 71 (by decide +kernel) (by decide +kernel)
  · exact tg1 73 (by decide +kernel) (by decide +kernel)
  · exact tg1 75 (by decide +kernel) (by decide +kernel)
  · exact tg1 77 (by decide +kernel) (by decide +kernel)
  · exact tg1 79 (by decide +kernel) (by decide +kernel)
  · exact tg1 81 (by decide +kernel) (by decide +kernel)
  · exact tg1 83 (by decide +kernel) (by decide +kernel)
  · exact tg1 85 (by decide +kernel) (by decide +kernel)
theorem in_Te : ∀ w ∈ u_ws R_Te T_Te 6, w ∈ tbG := by
  intro w hw
  obtain ⟨k, hk, rfl⟩ := List.mem_map.mp hw
  have hk := List.mem_range.mp hk
  rcases (show k = 0 ∨ k = 1 ∨ k = 2 ∨ k = 3 ∨ k = 4 ∨ k = 5 by omega) with rfl | rfl | rfl | rfl | rfl | rfl
  · exact tg2 3 (by decide +kernel) (by decide +kernel)
  · exact tg2 5 (by decide +kernel) (by decide +kernel)
  · exact tg2 7 (by decide +kernel) (by decide +kernel)
  · exact tg2 9 (by decide +kernel) (by decide +kernel)
  · exact tg2 11 (by decide +kernel) (by decide +kernel)
  · exact tg2 13 (by decide +kernel) (by decide +kernel)
theorem in_Rm : ∀ w ∈ u_ws R_Rm T_Rm 10, w ∈ tbG := by
  intro w hw
  obtain ⟨k, hk, rfl⟩ := List.mem_map.mp hw
  have hk := List.mem_range.mp hk
  rcases (show k = 0 ∨ k = 1 ∨ k = 2 ∨ k = 3 ∨ k = 4 ∨ k = 5 ∨ k = 6 ∨ k = 7 ∨ k = 8 ∨ k = 9 by omega) with rfl | rfl | rfl | rfl | rfl | rfl | rfl | rfl | rfl | rfl
  · exact tg1 153 (by decide +kernel) (by decide +kernel)
  · exact tg1 155 (by decide +kernel) (by decide +kernel)
  · exact tg1 157 (by decide +kernel) (by decide +kernel)
  · exact tg1 159 (by decide +kernel) (by decide +kernel)
  · exact tg1 161 (by decide +kernel) (by decide +kernel)
  · exact tg1 163 (by decide +kernel) (by decide +kernel)
  · exact tg1 165 (by decide +kernel) (by decide +kernel)
  · exact tg1 167 (by decide +kernel) (by decide +kernel)
  · exact tg1 169 (by decide +kernel) (by decide +kernel)
  · exact tg1 171 (by decide +kernel) (by decide +kernel)
theorem in_Rw : ∀ w ∈ u_ws R_Rw T_Rw 1, w ∈ tbG := by
  intro w hw
  obtain ⟨k, hk, rfl⟩ := List.mem_map.mp hw
  have hk := List.mem_range.mp hk
  rcases (show k = 0 by omega) with rfl
  · exact tg1 33 (by decide +kernel) (by decide +kernel)
theorem in_Cc : ∀ w ∈ u_ws R_Cc T_Cc 8, w ∈ tbG := by
  intro w hw
  obtain ⟨k, hk, rfl⟩ := List.mem_map.mp hw
  have hk := List.mem_range.mp hk
  rcases (show k = 0 ∨ k = 1 ∨ k = 2 ∨ k = 3 ∨ k = 4 ∨ k = 5 ∨ k = 6 ∨ k = 7 by omega) with rfl | rfl | rfl | rfl | rfl | rfl | rfl | rfl
  · exact tg2 40 (by decide +kernel) (by decide +kernel)
  · exact tg2 42 (by decide +kernel) (by decide +kernel)
  · exact tg2 44 (by decide +kernel) (by decide +kernel)
  · exact tg2 46 (by decide +kernel) (by decide +kernel)
  · exact tg2 48 (by decide +kernel) (by decide +kernel)
  · exact tg2 50 (by decide +kernel) (by decide +kernel)
  · exact tg2 52 (by decide +kernel) (by decide +kernel)
  · exact tg2 54 (by decide +kernel) (by decide +kernel)
theorem fs_Cc_10 : FS R_Cc 10 8 0 := ⟨_, _, _, rfl, in_Cc, by decide, tg2 33 (by decide +kernel) rfl⟩
theorem ps_Cc_10 : PS R_Cc 10 8 0 (ty_Cc 0) true := ⟨_, _, _, ty_Cc, rfl, in_Cc, by decide, tg2 33 (by decide +kernel) rfl, ty_Cc_ok, nm_Cc, rfl, rfl, fun h => by first | rfl | cases h⟩
theorem fs_Cc_16 : FS R_Cc 16 8 1 := ⟨_, _, _, rfl, in_Cc, by decide, tg2 34 (by decide +kernel) rfl⟩
theorem ps_Cc_16 : PS R_Cc 16 8 1 (ty_Cc 1) true := ⟨_, _, _, ty_Cc, rfl, in_Cc, by decide, tg2 34 (by decide +kernel) rfl, ty_Cc_ok, nm_Cc, rfl, rfl, fun h => by first | rfl | cases h⟩
theorem fs_Cc_19 : FS R_Cc 19 8 2 := ⟨_, _, _, rfl, in_Cc, by decide, tg2 35 (by decide +kernel) rfl⟩
theorem ps_Cc_19 : PS R_Cc 19 8 2 (ty_Cc 2) true := ⟨_, _, _, ty_Cc, rfl, in_Cc, by decide, tg2 35 (by decide +kernel) rfl, ty_Cc_ok, nm_Cc, rfl, rfl, fun h => by first | rfl | cases h⟩
theorem fs_Cc_22 : FS R_Cc 22 8 3 := ⟨_, _, _, rfl, in_Cc, by decide, tg2 36 (by decide +kernel) rfl⟩
theorem ps_Cc_22 : PS R_Cc 22 8 3 (ty_Cc 3) true := ⟨_, _, _, ty_Cc, rfl, in_Cc, by decide, tg2 36 (by decide +kernel) rfl, ty_Cc_ok, nm_Cc, rfl, rfl, fun h => by first | rfl | cases h⟩
theorem fs_Cc_28 : FS R_Cc 28 8 4 := ⟨_, _, _, rfl, in_Cc, by decide, tg2 37 (by decide +kernel) rfl⟩
theorem ps_Cc_28 : PS R_Cc 28 8 4 (ty_Cc 4) true := ⟨_, _, _, ty_Cc, rfl, in_Cc, by decide, tg2 37 (by decide +kernel) rfl, ty_Cc_ok, nm_Cc, rfl, rfl, fun h => by first | rfl | cases h⟩
theorem fs_Cc_35 : FS R_Cc 35 8 5 := ⟨_, _, _, rfl, in_Cc, by decide, tg2 38 (by decide +kernel) rfl⟩
theorem ps_Cc_35 : PS R_Cc 35 8 5 (ty_Cc 5) true := ⟨_, _, _, ty_Cc, rfl, in_Cc, by decide, tg2 38 (by decide +kernel) rfl, ty_Cc_ok, nm_Cc, rfl, rfl, fun h => by first | rfl | cases h⟩
theorem fs_Cc_42 : FS R_Cc 42 8 6 := ⟨_, _, _, rfl, in_Cc, by decide, tg2 39 (by decide +kernel) rfl⟩
theorem ps_Cc_42 : PS R_Cc 42 8 6 (ty_Cc 6) true := ⟨_, _, _, ty_Cc, rfl, in_Cc, by decide, tg2 39 (by decide +kernel) rfl, ty_Cc_ok, nm_Cc, rfl, rfl, fun h => by first | rfl | cases h⟩
theorem fs_Cc_50 : FS R_Cc 50 0 1 := ⟨_, _, _, rfl, in_Bk, by decide, tg1 181 (by decide +kernel) rfl⟩
theorem fs_Cc_54 : FS R_Cc 54 4 0 := ⟨_, _, _, rfl, in_Ro, by decide, tg1 46 (by decide +kernel) rfl⟩
theorem fs_Cc_72 : FS R_Cc 72 5 2 := ⟨_, _, _, rfl, in_Te, by decide, tg1 239 (by decide +kernel) rfl⟩
theorem fs_Cc_76 : FS R_Cc 76 6 0 := ⟨_, _, _, rfl, in_Rm, by decide, tg1 135 (by decide +kernel) rfl⟩
theorem fs_Cc_79 : FS R_Cc 79 0 3 := ⟨_, _, _, rfl, in_Bk, by decide, tg1 185 (by decide +kernel) rfl⟩
theorem fs_Cc_107 : FS R_Cc 107 0 2 := ⟨_, _, _, rfl, in_Bk, by decide, tg1 183 (by decide +kernel) rfl⟩
theorem fs_Cc_130 : FS R_Cc 130 0 0 := ⟨_, _, _, rfl, in_Bk, by decide, tg1 179 (by decide +kernel) rfl⟩
theorem fs_Cc_146 : FS R_Cc 146 5 1 := ⟨_, _, _, rfl, in_Te, by decide, tg1 237 (by decide +kernel) rfl⟩
theorem ps_Cc_146 : PS R_Cc 146 5 1 (ty_Te 1) false := ⟨_, _, _, ty_Te, rfl, in_Te, by decide, tg1 237 (by decide +kernel) rfl, ty_Te_ok, nm_Te, rfl, rfl, fun h => by first | rfl | cases h⟩
theorem fs_Cc_149 : FS R_Cc 149 2 2 := ⟨_, _, _, rfl, in_Hi, by decide, tg1 217 (by decide +kernel) rfl⟩
theorem fs_Cc_157 : FS R_Cc 157 4 1 := ⟨_, _, _, rfl, in_Ro, by decide, tg1 48 (by decide +kernel) rfl⟩
theorem fs_Cc_160 : FS R_Cc 160 4 2 := ⟨_, _, _, rfl, in_Ro, by decide, tg1 51 (by decide +kernel) rfl⟩
theorem fs_Cc_163 : FS R_Cc 163 4 3 := ⟨_, _, _, rfl, in_Ro, by decide, tg1 54 (by decide +kernel) rfl⟩
theorem fs_Cc_166 : FS R_Cc 166 4 4 := ⟨_, _, _, rfl, in_Ro, by decide, tg1 57 (by decide +kernel) rfl⟩
theorem fs_Cc_175 : FS R_Cc 175 4 6 := ⟨_, _, _, rfl, in_Ro, by decide, tg1 62 (by decide +kernel) rfl⟩
theorem fs_Cc_178 : FS R_Cc 178 4 7 := ⟨_, _, _, rfl, in_Ro, by decide, tg1 65 (by decide +kernel) rfl⟩
theorem fs_Cc_181 : FS R_Cc 181 4 8 := ⟨_, _, _, rfl, in_Ro, by decide, tg1 68 (by decide +kernel) rfl⟩
theorem fs_Cc_184 : FS R_Cc 184 4 5 := ⟨_, _, _, rfl, in_Ro, by decide, tg1 59 (by decide +kernel) rfl⟩
theorem fs_Cc_187 : FS R_Cc 187 3 3 := ⟨_, _, _, rfl, in_Of, by decide, tg1 105 (by decide +kernel) rfl⟩
theorem fs_Cc_190 : FS R_Cc 190 3 4 := ⟨_, _, _, rfl, in_Of, by decide, tg1 108 (by decide +kernel) rfl⟩
theorem fs_Cc_191 : FS R_Cc 191 3 5 := ⟨_, _, _, rfl, in_Of, by decide, tg1 111 (by decide +kernel) rfl⟩
theorem fs_Cc_199 : FS R_Cc 199 6 1 := ⟨_, _, _, rfl, in_Rm, by decide, tg1 138 (by decide +kernel) rfl⟩
theorem fs_Cc_205 : FS R_Cc 205 6 4 := ⟨_, _, _, rfl, in_Rm, by decide, tg1 142 (by decide +kernel) rfl⟩
theorem fs_Cc_211 : FS R_Cc 211 6 5 := ⟨_, _, _, rfl, in_Rm, by decide, tg1 145 (by decide +kernel) rfl⟩
theorem fs_Cc_212 : FS R_Cc 212 6 7 := ⟨_, _, _, rfl, in_Rm, by decide, tg1 148 (by decide +kernel) rfl⟩
theorem fs_Cc_221 : FS R_Cc 221 6 8 := ⟨_, _, _, rfl, in_Rm, by decide, tg1 151 (by decide +kernel) rfl⟩
theorem fs_Cc_234 : FS R_Cc 234 3 0 := ⟨_, _, _, rfl, in_Of, by decide, tg1 98 (by decide +kernel) rfl⟩
theorem fs_Cc_237 : FS R_Cc 237 3 1 := ⟨_, _, _, rfl, in_Of, by decide, tg1 100 (by decide +kernel) rfl⟩
theorem fs_Cc_244 : FS R_Cc 244 0 4 := ⟨_, _, _, rfl, in_Bk, by decide, tg1 187 (by decide +kernel) rfl⟩
theorem fs_Bk_14 : FS R_Bk 14 0 0 := ⟨_, _, _, rfl, in_Bk, by decide, tg1 178 (by decide +kernel) rfl⟩
theorem ps_Bk_14 : PS R_Bk 14 0 0 (ty_Bk 0) true := ⟨_, _, _, ty_Bk, rfl, in_Bk, by decide, tg1 178 (by decide +kernel) rfl, ty_Bk_ok, nm_Bk, rfl, rfl, fun h => by first | rfl | cases h⟩
theorem fs_Bk_23 : FS R_Bk 23 0 1 := ⟨_, _, _, rfl, in_Bk, by decide, tg1 180 (by decide +kernel) rfl⟩
theorem ps_Bk_23 : PS R_Bk 23 0 1 (ty_Bk 1) true := ⟨_, _, _, ty_Bk, rfl, in_Bk, by decide, tg1 180 (by decide +kernel) rfl, ty_Bk_ok, nm_Bk, rfl, rfl, fun h => by first | rfl | cases h⟩
theorem fs_Bk_30 : FS R_Bk 30 0 2 := ⟨_, _, _, rfl, in_Bk, by decide, tg1 182 (by decide +kernel) rfl⟩
theorem ps_Bk_30 : PS R_Bk 30 0 2 (ty_Bk 2) true := ⟨_, _, _, ty_Bk, rfl, in_Bk, by decide, tg1 182 (by decide +kernel) rfl, ty_Bk_ok, nm_Bk, rfl, rfl, fun h => by first | rfl | cases h⟩
theorem fs_Bk_37 : FS R_Bk 37 0 3 := ⟨_, _, _, rfl, in_Bk, by decide, tg1 184 (by decide +kernel) rfl⟩
theorem ps_Bk_37 : PS R_Bk 37 0 3 (ty_Bk 3) true := ⟨_, _, _, ty_Bk, rfl, in_Bk, by decide, tg1 184 (by decide +kernel) rfl, ty_Bk_ok, nm_Bk, rfl, rfl, fun h => by first | rfl | cases h⟩
theorem fs_Bk_58 : FS R_Bk 58 0 4 := ⟨_, _, _, rfl, in_Bk, by decide, tg1 186 (by decide +kernel) rfl⟩
theorem ps_Bk_58 : PS R_Bk 58 0 4 (ty_Bk 4) false := ⟨_, _, _, ty_Bk, rfl, in_Bk, by decide, tg1 186 (by decide +kernel) rfl, ty_Bk_ok, nm_Bk, rfl, rfl, fun h => by first | rfl | cases h⟩
theorem fs_Bk_74 : FS R_Bk 74 4 2 := ⟨_, _, _, rfl, in_Ro, by decide, tg1 50 (by decide +kernel) rfl⟩
theorem fs_Bk_95 : FS R_Bk 95 4 6 := ⟨_, _, _, rfl, in_Ro, by decide, tg1 61 (by decide +kernel) rfl⟩
theorem fs_Bk_108 : FS R_Bk 108 4 4 := ⟨_, _, _, rfl, in_Ro, by decide, tg1 56 (by decide +kernel) rfl⟩
theorem fs_Bk_117 : FS R_Bk 117 6 8 := ⟨_, _, _, rfl, in_Rm, by decide, tg1 150 (by decide +kernel) rfl⟩
theorem fs_Bk_122 : FS R_Bk 122 3 4 := ⟨_, _, _, rfl, in_Of, by decide, tg1 107 (by decide +kernel) rfl⟩
theorem fs_Bk_123 : FS R_Bk 123 0 5 := ⟨_, _, _, rfl, in_Bk, by decide, tg1 188 (by decide +kernel) rfl⟩
theorem ps_Bk_123 : PS R_Bk 123 0 5 (ty_Bk 5) false := ⟨_, _, _, ty_Bk, rfl, in_Bk, by decide, tg1 188 (by decide +kernel) rfl, ty_Bk_ok, nm_Bk, rfl, rfl, fun h => by first | rfl | cases h⟩
theorem fs_Bk_126 : FS R_Bk 126 3 5 := ⟨_, _, _, rfl, in_Of, by decide, tg1 110 (by decide +kernel) rfl⟩
theorem fs_Bk_129 : FS R_Bk 129 0 6 := ⟨_, _, _, rfl, in_Bk, by decide, tg1 189 (by decide +kernel) rfl⟩
theorem ps_Bk_129 : PS R_Bk 129 0 6 (ty_Bk 6) false := ⟨_, _, _, ty_Bk, rfl, in_Bk, by decide, tg1 189 (by decide +kernel) rfl, ty_Bk_ok, nm_Bk, rfl, rfl, fun h => by first | rfl | cases h⟩
theorem fs_Bk_132 : FS R_Bk 132 3 2 := ⟨_, _, _, rfl, in_Of, by decide, tg1 102 (by decide +kernel) rfl⟩
theorem fs_Bk_142 : FS R_Bk 142 4 3 := ⟨_, _, _, rfl, in_Ro, by decide, tg1 53 (by decide +kernel) rfl⟩
theorem fs_Bk_156 : FS R_Bk 156 4 7 := ⟨_, _, _, rfl, in_Ro, by decide, tg1 64 (by decide +kernel) rfl⟩
theorem fs_Bk_162 : FS R_Bk 162 6 5 := ⟨_, _, _, rfl, in_Rm, by decide, tg1 144 (by decide +kernel) rfl⟩
theorem fs_Bk_168 : FS R_Bk 168 3 3 := ⟨_, _, _, rfl, in_Of, by decide, tg1 104 (by decide +kernel) rfl⟩
theorem fs_Bk_170 : FS R_Bk 170 4 8 := ⟨_, _, _, rfl, in_Ro, by decide, tg1 67 (by decide +kernel) rfl⟩
theorem fs_Bk_173 : FS R_Bk 173 3 0 := ⟨_, _, _, rfl, in_Of, by decide, tg1 97 (by decide +kernel) rfl⟩
theorem fs_Hi_11 : FS R_Hi 11 2 0 := ⟨_, _, _, rfl, in_Hi, by decide, tg1 214 (by decide +kernel) rfl⟩
theorem ps_Hi_11 : PS R_Hi 11 2 0 (ty_Hi 0) true := ⟨_, _, _, ty_Hi, rfl, in_Hi, by decide, tg1 214 (by decide +kernel) rfl, ty_Hi_ok, nm_Hi, rfl, rfl, fun h => by first | rfl | cases h⟩
theorem fs_Hi_18 : FS R_Hi 18 2 1 := ⟨_, _, _, rfl, in_Hi, by decide, tg1 215 (by decide +kernel) rfl⟩
theorem ps_Hi_18 : PS R_Hi 18 2 1 (ty_Hi 1) false := ⟨_, _, _, ty_Hi, rfl, in_Hi, by decide, tg1 215 (by decide +kernel) rfl, ty_Hi_ok, nm_Hi, rfl, rfl, fun h => by first | rfl | cases h⟩
theorem fs_Hi_22 : FS R_Hi 22 2 2 := ⟨_, _, _, rfl, in_Hi, by decide, tg1 216 (by decide +kernel) rfl⟩
theorem ps_Hi_22 : PS R_Hi 22 2 2 (ty_Hi 2) false := ⟨_, _, _, ty_Hi, rfl, in_Hi, by decide, tg1 216 (by decide +kernel) rfl, ty_Hi_ok, nm_Hi, rfl, rfl, fun h => by first | rfl | cases h⟩
theorem fs_Of_14 : FS R_Of 14 3 2 := ⟨_, _, _, rfl, in_Of, by decide, tg1 101 (by decide +kernel) rfl⟩
theorem ps_Of_14 : PS R_Of 14 3 2 (ty_Of 2) true := ⟨_, _, _, ty_Of, rfl, in_Of, by decide, tg1 101 (by decide +kernel) rfl, ty_Of_ok, nm_Of, rfl, rfl, fun h => by first | rfl | cases h⟩
theorem fs_Of_20 : FS R_Of 20 3 3 := ⟨_, _, _, rfl, in_Of, by decide, tg1 103 (by decide +kernel) rfl⟩
theorem ps_Of_20 : PS R_Of 20 3 3 (ty_Of 3) true := ⟨_, _, _, ty_Of, rfl, in_Of, by decide, tg1 103 (by decide +kernel) rfl, ty_Of_ok, nm_Of, rfl, rfl, fun h => by first | rfl | cases h⟩
theorem fs_Of_23 : FS R_Of 23 3 4 := ⟨_, _, _, rfl, in_Of, by decide, tg1 106 (by decide +kernel) rfl⟩
theorem ps_Of_23 : PS R_Of 23 3 4 (ty_Of 4) true := ⟨_, _, _, ty_Of, rfl, in_Of, by decide, tg1 106 (by decide +kernel) rfl, ty_Of_ok, nm_Of, rfl, rfl, fun h => by first | rfl | cases h⟩
theorem fs_Of_26 : FS R_Of 26 3 5 := ⟨_, _, _, rfl, in_Of, by decide, tg1 109 (by decide +kernel) rfl⟩
theorem ps_Of_26 : PS R_Of 26 3 5 (ty_Of 5) true := ⟨_, _, _, ty_Of, rfl, in_Of, by decide, tg1 109 (by decide +kernel) rfl, ty_Of_ok, nm_Of, rfl, rfl, fun h => by first | rfl | cases h⟩
theorem fs_Of_29 : FS R_Of 29 3 0 := ⟨_, _, _, rfl, in_Of, by decide, tg1 96 (by decide +kernel) rfl⟩
theorem ps_Of_29 : PS R_Of 29 3 0 (ty_Of 0) false := ⟨_, _, _, ty_Of, rfl, in_Of, by decide, tg1 96 (by decide +kernel) rfl, ty_Of_ok, nm_Of, rfl, rfl, fun h => by first | rfl | cases h⟩
theorem fs_Of_33 : FS R_Of 33 3 1 := ⟨_, _, _, rfl, in_Of, by decide, tg1 99 (by decide +kernel) rfl⟩
theorem ps_Of_33 : PS R_Of 33 3 1 (ty_Of 1) false := ⟨_, _, _, ty_Of, rfl, in_Of, by decide, tg1 99 (by decide +kernel) rfl, ty_Of_ok, nm_Of, rfl, rfl, fun h => by first | rfl | cases h⟩
theorem fs_Ro_14 : FS R_Ro 14 4 1 := ⟨_, _, _, rfl, in_Ro, by decide, tg1 47 (by decide +kernel) rfl⟩
theorem ps_Ro_14 : PS R_Ro 14 4 1 (ty_Ro 1) true := ⟨_, _, _, ty_Ro, rfl, in_Ro, by decide, tg1 47 (by decide +kernel) rfl, ty_Ro_ok, nm_Ro, rfl, rfl, fun h => by first | rfl | cases h⟩
theorem fs_Ro_20 : FS R_Ro 20 4 2 := ⟨_, _, _, rfl, in_Ro, by decide, tg1 49 (by decide +kernel) rfl⟩
theorem ps_Ro_20 : PS R_Ro 20 4 2 (ty_Ro 2) true := ⟨_, _, _, ty_Ro, rfl, in_Ro, by decide, tg1 49 (by decide +kernel) rfl, ty_Ro_ok, nm_Ro, rfl, rfl, fun h => by first | rfl | cases h⟩
theorem fs_Ro_23 : FS R_Ro 23 4 3 := ⟨_, _, _, rfl, in_Ro, by decide, tg1 52 (by decide +kernel) rfl⟩
theorem ps_Ro_23 : PS R_Ro 23 4 3 (ty_Ro 3) true := ⟨_, _, _, ty_Ro, rfl, in_Ro, by decide, tg1 52 (by decide +kernel) rfl, ty_Ro_ok, nm_Ro, rfl, rfl, fun h => by first | rfl | cases h⟩
theorem fs_Ro_26 : FS R_Ro 26 4 4 := ⟨_, _, _, rfl, in_Ro, by decide, tg1 55 (by decide +kernel) rfl⟩
theorem ps_Ro_26 : PS R_Ro 26 4 4 (ty_Ro 4) true := ⟨_, _, _, ty_Ro, rfl, in_Ro, by decide, tg1 55 (by decide +kernel) rfl, ty_Ro_ok, nm_Ro, rfl, rfl, fun h => by first | rfl | cases h⟩
theorem fs_Ro_29 : FS R_Ro 29 4 5 := ⟨_, _, _, rfl, in_Ro, by decide, tg1 58 (by decide +kernel) rfl⟩
theorem ps_Ro_29 : PS R_Ro 29 4 5 (ty_Ro 5) true := ⟨_, _, _, ty_Ro, rfl, in_Ro, by decide, tg1 58 (by decide +kernel) rfl, ty_Ro_ok, nm_Ro, rfl, rfl, fun h => by first | rfl | cases h⟩
theorem fs_Ro_32 : FS R_Ro 32 4 6 := ⟨_, _, _, rfl, in_Ro, by decide, tg1 60 (by decide +kernel) rfl⟩
theorem ps_Ro_32 : PS R_Ro 32 4 6 (ty_Ro 6) true := ⟨_, _, _, ty_Ro, rfl, in_Ro, by decide, tg1 60 (by decide +kernel) rfl, ty_Ro_ok, nm_Ro, rfl, rfl, fun h => by first | rfl | cases h⟩
theorem fs_Ro_35 : FS R_Ro 35 4 7 := ⟨_, _, _, rfl, in_Ro, by decide, tg1 63 (by decide +kernel) rfl⟩
theorem ps_Ro_35 : PS R_Ro 35 4 7 (ty_Ro 7) true := ⟨_, _, _, ty_Ro, rfl, in_Ro, by decide, tg1 63 (by decide +kernel) rfl, ty_Ro_ok, nm_Ro, rfl, rfl, fun h => by first | rfl | cases h⟩
theorem fs_Ro_38 : FS R_Ro 38 4 8 := ⟨_, _, _, rfl, in_Ro, by decide, tg1 66 (by decide +kernel) rfl⟩
theorem ps_Ro_38 : PS R_Ro 38 4 8 (ty_Ro 8) true := ⟨_, _, _, ty_Ro, rfl, in_Ro, by decide, tg1 66 (by decide +kernel) rfl, ty_Ro_ok, nm_Ro, rfl, rfl, fun h => by first | rfl | cases h⟩
theorem fs_Ro_41 : FS R_Ro 41 4 0 := ⟨_, _, _, rfl, in_Ro, by decide, tg1 45 (by decide +kernel) rfl⟩
theorem ps_Ro_41 : PS R_Ro 41 4 0 (ty_Ro 0) false := ⟨_, _, _, ty_Ro, rfl, in_Ro, by decide, tg1 45 (by decide +kernel) rfl, ty_Ro_ok, nm_Ro, rfl, rfl, fun h => by first | rfl | cases h⟩
theorem fs_Te_14 : FS R_Te 14 5 0 := ⟨_, _, _, rfl, in_Te, by decide, tg1 235 (by decide +kernel) rfl⟩
theorem ps_Te_14 : PS R_Te 14 5 0 (ty_Te 0) true := ⟨_, _, _, ty_Te, rfl, in_Te, by decide, tg1 235 (by decide +kernel) rfl, ty_Te_ok, nm_Te, rfl, rfl, fun h => by first | rfl | cases h⟩
theorem fs_Te_23 : FS R_Te 23 5 2 := ⟨_, _, _, rfl, in_Te, by decide, tg1 238 (by decide +kernel) rfl⟩
theorem ps_Te_23 : PS R_Te 23 5 2 (ty_Te 2) true := ⟨_, _, _, ty_Te, rfl, in_Te, by decide, tg1 238 (by decide +kernel) rfl, ty_Te_ok, nm_Te, rfl, rfl, fun h => by first | rfl | cases h⟩
theorem fs_Te_27 : FS R_Te 27 5 1 := ⟨_, _, _, rfl, in_Te, by decide, tg1 236 (by decide +kernel) rfl⟩
theorem ps_Te_27 : PS R_Te 27 5 1 (ty_Te 1) false := ⟨_, _, _, ty_Te, rfl, in_Te, by decide, tg1 236 (by decide +kernel) rfl, ty_Te_ok, nm_Te, rfl, rfl, fun h => by first | rfl | cases h⟩
theorem fs_Te_35 : FS R_Te 35 6 0 := ⟨_, _, _, rfl, in_Rm, by decide, tg1 134 (by decide +kernel) rfl⟩
theorem ps_Te_35 : PS R_Te 35 6 0 (ty_Rm 0) false := ⟨_, _, _, ty_Rm, rfl, in_Rm, by decide, tg1 134 (by decide +kernel) rfl, ty_Rm_ok, nm_Rm, rfl, rfl, fun h => by first | rfl | cases h⟩
theorem fs_Te_49 : FS R_Te 49 5 3 := ⟨_, _, _, rfl, in_Te, by decide, tg2 0 (by decide +kernel) rfl⟩
theorem ps_Te_49 : PS R_Te 49 5 3 (ty_Te 3) false := ⟨_, _, _, ty_Te, rfl, in_Te, by decide, tg2 0 (by decide +kernel) rfl, ty_Te_ok, nm_Te, rfl, rfl, fun h => by first | rfl | cases h⟩
theorem fs_Te_55 : FS R_Te 55 5 4 := ⟨_, _, _, rfl, in_Te, by decide, tg2 1 (by decide +kernel) rfl⟩
theorem ps_Te_55 : PS R_Te 55 5 4 (ty_Te 4) false := ⟨_, _, _, ty_Te, rfl, in_Te, by decide, tg2 1 (by decide +kernel) rfl, ty_Te_ok, nm_Te, rfl, rfl, fun h => by first | rfl | cases h⟩
theorem fs_Te_73 : FS R_Te 73 5 5 := ⟨_, _, _, rfl, in_Te, by decide, tg2 2 (by decide +kernel) rfl⟩
theorem ps_Te_73 : PS R_Te 73 5 5 (ty_Te 5) false := ⟨_, _, _, ty_Te, rfl, in_Te, by decide, tg2 2 (by decide +kernel) rfl, ty_Te_ok, nm_Te, rfl, rfl, fun h => by first | rfl | cases h⟩
theorem fs_Te_76 : FS R_Te 76 6 1 := ⟨_, _, _, rfl, in_Rm, by decide, tg1 137 (by decide +kernel) rfl⟩
theorem fs_Rm_14 : FS R_Rm 14 6 1 := ⟨_, _, _, rfl, in_Rm, by decide, tg1 136 (by decide +kernel) rfl⟩
theorem ps_Rm_14 : PS R_Rm 14 6 1 (ty_Rm 1) true := ⟨_, _, _, ty_Rm, rfl, in_Rm, by decide, tg1 136 (by decide +kernel) rfl, ty_Rm_ok, nm_Rm, rfl, rfl, fun h => by first | rfl | cases h⟩
theorem fs_Rm_20 : FS R_Rm 20 6 2 := ⟨_, _, _, rfl, in_Rm, by decide, tg1 139 (by decide +kernel) rfl⟩
theorem ps_Rm_20 : PS R_Rm 20 6 2 (ty_Rm 2) true := ⟨_, _, _, ty_Rm, rfl, in_Rm, by decide, tg1 139 (by decide +kernel) rfl, ty_Rm_ok, nm_Rm, rfl, rfl, fun h => by first | rfl | cases h⟩
theorem fs_Rm_23 : FS R_Rm 23 6 3 := ⟨_, _, _, rfl, in_Rm, by decide, tg1 140 (by decide +kernel) rfl⟩
theorem ps_Rm_23 : PS R_Rm 23 6 3 (ty_Rm 3) true := ⟨_, _, _, ty_Rm, rfl, in_Rm, by decide, tg1 140 (by decide +kernel) rfl, ty_Rm_ok, nm_Rm, rfl, rfl, fun h => by first | rfl | cases h⟩
theorem fs_Rm_26 : FS R_Rm 26 6 4 := ⟨_, _, _, rfl, in_Rm, by decide, tg1 141 (by decide +kernel) rfl⟩
theorem ps_Rm_26 : PS R_Rm 26 6 4 (ty_Rm 4) true := ⟨_, _, _, ty_Rm, rfl, in_Rm, by decide, tg1 141 (by decide +kernel) rfl, ty_Rm_ok, nm_Rm, rfl, rfl, fun h => by first | rfl | cases h⟩
theorem fs_Rm_29 : FS R_Rm 29 6 5 := ⟨_, _, _, rfl, in_Rm, by decide, tg1 143 (by decide +kernel) rfl⟩
theorem ps_Rm_29 : PS R_Rm 29 6 5 (ty_Rm 5) true := ⟨_, _, _, ty_Rm, rfl, in_Rm, by decide, tg1 143 (by decide +kernel) rfl, ty_Rm_ok, nm_Rm, rfl, rfl, fun h => by first | rfl | cases h⟩
theorem fs_Rm_32 : FS R_Rm 32 6 6 := ⟨_, _, _, rfl, in_Rm, by decide, tg1 146 (by decide +kernel) rfl⟩
theorem ps_Rm_32 : PS R_Rm 32 6 6 (ty_Rm 6) true := ⟨_, _, _, ty_Rm, rfl, in_Rm, by decide, tg1 146 (by decide +kernel) rfl, ty_Rm_ok, nm_Rm, rfl, rfl, fun h => by first | rfl | cases h⟩
theorem fs_Rm_35 : FS R_Rm 35 6 7 := ⟨_, _, _, rfl, in_Rm, by decide, tg1 147 (by decide +kernel) rfl⟩
theorem ps_Rm_35 : PS R_Rm 35 6 7 (ty_Rm 7) true := ⟨_, _, _, ty_Rm, rfl, in_Rm, by decide, tg1 147 (by decide +kernel) rfl, ty_Rm_ok, nm_Rm, rfl, rfl, fun h => by first | rfl | cases h⟩
theorem fs_Rm_38 : FS R_Rm 38 6 8 := ⟨_, _, _, rfl, in_Rm, by decide, tg1 149 (by decide +kernel) rfl⟩
theorem ps_Rm_38 : PS R_Rm 38 6 8 (ty_Rm 8) true := ⟨_, _, _, ty_Rm, rfl, in_Rm, by decide, tg1 149 (by decide +kernel) rfl, ty_Rm_ok, nm_Rm, rfl, rfl, fun h => by first | rfl | cases h⟩
theorem fs_Rm_41 : FS R_Rm 41 6 9 := ⟨_, _, _, rfl, in_Rm, by decide, tg1 152 (by decide +kernel) rfl⟩
theorem ps_Rm_41 : PS R_Rm 41 6 9 (ty_Rm 9) true := ⟨_, _, _, ty_Rm, rfl, in_Rm, by decide, tg1 152 (by decide +kernel) rfl, ty_Rm_ok, nm_Rm, rfl, rfl, fun h => by first | rfl | cases h⟩
theorem fs_Rm_44 : FS R_Rm 44 6 0 := ⟨_, _, _, rfl, in_Rm, by decide, tg1 133 (by decide +kernel) rfl⟩
theorem ps_Rm_44 : PS R_Rm 44 6 0 (ty_Rm 0) false := ⟨_, _, _, ty_Rm, rfl, in_Rm, by decide, tg1 133 (by decide +kernel) rfl, ty_Rm_ok, nm_Rm, rfl, rfl, fun h => by first | rfl | cases h⟩
theorem fs_Rw_7 : FS R_Rw 7 7 0 := ⟨_, _, _, rfl, in_Rw, by decide, tg1 32 (by decide +kernel) rfl⟩
theorem ps_Rw_7 : PS R_Rw 7 7 0 (ty_Rw 0) true := ⟨_, _, _, ty_Rw, rfl, in_Rw, by decide, tg1 32 (by decide +kernel) rfl, ty_Rw_ok, nm_Rw, rfl, rfl, fun h => by first | rfl | cases h⟩
theorem ns_Cc_7 : NS R_Cc 7 0 [some none, some none, some none, some none, none, none, none] := ⟨_, _, _, ty_Bk, rfl, in_Bk, ty_Bk_ok, tg1 20 (by decide +kernel) rfl, tg1 21 (by decide +kernel) rfl, tg1 2 (by decide +kernel) rfl, rfl, fun j hj => by
  rcases (show j = 0 ∨ j = 1 ∨ j = 2 ∨ j = 3 ∨ j = 4 ∨ j = 5 ∨ j = 6 by omega) with rfl | rfl | rfl | rfl | rfl | rfl | rfl
  · first | exact Or.inl ⟨rfl, rfl⟩ | exact Or.inr ⟨rfl, rfl⟩
  · first | exact Or.inl ⟨rfl, rfl⟩ | exact Or.inr ⟨rfl, rfl⟩
  · first | exact Or.inl ⟨rfl, rfl⟩ | exact Or.inr ⟨rfl, rfl⟩
  · first | exact Or.inl ⟨rfl, rfl⟩ | exact Or.inr ⟨rfl, rfl⟩
  · first | exact Or.inl ⟨rfl, rfl⟩ | exact Or.inr ⟨rfl, rfl⟩
  · first | exact Or.inl ⟨rfl, rfl⟩ | exact Or.inr ⟨rfl, rfl⟩
  · first | exact Or.inl ⟨rfl, rfl⟩ | exact Or.inr ⟨rfl, rfl⟩⟩
theorem ns_Cc_25 : NS R_Cc 25 2 [some none, none, none] := ⟨_, _, _, ty_Hi, rfl, in_Hi, ty_Hi_ok, tg1 205 (by decide +kernel) rfl, tg1 206 (by decide +kernel) rfl, tg1 7 (by decide +kernel) rfl, rfl, fun j hj => by
  rcases (show j = 0 ∨ j = 1 ∨ j = 2 by omega) with rfl | rfl | rfl
  · first | exact Or.inl ⟨rfl, rfl⟩ | exact Or.inr ⟨rfl, rfl⟩
  · first | exact Or.inl ⟨rfl, rfl⟩ | exact Or.inr ⟨rfl, rfl⟩
  · first | exact Or.inl ⟨rfl, rfl⟩ | exact Or.inr ⟨rfl, rfl⟩⟩
theorem ns_Cc_32 : NS R_Cc 32 5 [some none, none, some none, none, none, none] := ⟨_, _, _, ty_Te, rfl, in_Te, ty_Te_ok, tg1 225 (by decide +kernel) rfl, tg1 226 (by decide +kernel) rfl, tg1 8 (by decide +kernel) rfl, rfl, fun j hj => by
  rcases (show j = 0 ∨ j = 1 ∨ j = 2 ∨ j = 3 ∨ j = 4 ∨ j = 5 by omega) with rfl | rfl | rfl | rfl | rfl | rfl
  · first | exact Or.inl ⟨rfl, rfl⟩ | exact Or.inr ⟨rfl, rfl⟩
  · first | exact Or.inl ⟨rfl, rfl⟩ | exact Or.inr ⟨rfl, rfl⟩
  · first | exact Or.inl ⟨rfl, rfl⟩ | exact Or.inr ⟨rfl, rfl⟩
  · first | exact Or.inl ⟨rfl, rfl⟩ | exact Or.inr ⟨rfl, rfl⟩
  · first | exact Or.inl ⟨rfl, rfl⟩ | exact Or.inr ⟨rfl, rfl⟩
  · first | exact Or.inl ⟨rfl, rfl⟩ | exact Or.inr ⟨rfl, rfl⟩⟩
theorem ns_Cc_39 : NS R_Cc 39 1 [none, none, none, none, none] := ⟨_, _, _, ty_Ch, rfl, in_Ch, ty_Ch_ok, tg2 16 (by decide +kernel) rfl, tg2 17 (by decide +kernel) rfl, tg1 9 (by decide +kernel) rfl, rfl, fun j hj => by
  rcases (show j = 0 ∨ j = 1 ∨ j = 2 ∨ j = 3 ∨ j = 4 by omega) with rfl | rfl | rfl | rfl | rfl
  · first | exact Or.inl ⟨rfl, rfl⟩ | exact Or.inr ⟨rfl, rfl⟩
  · first | exact Or.inl ⟨rfl, rfl⟩ | exact Or.inr ⟨rfl, rfl⟩
  · first | exact Or.inl ⟨rfl, rfl⟩ | exact Or.inr ⟨rfl, rfl⟩
  · first | exact Or.inl ⟨rfl, rfl⟩ | exact Or.inr ⟨rfl, rfl⟩
  · first | exact Or.inl ⟨rfl, rfl⟩ | exact Or.inr ⟨rfl, rfl⟩⟩
theorem ns_Bk_9 : NS R_Bk 9 7 [some none] := ⟨_, _, _, ty_Rw, rfl, in_Rw, ty_Rw_ok, tg1 26 (by decide +kernel) rfl, tg1 27 (by decide +kernel) rfl, tg1 3 (by decide +kernel) rfl, rfl, fun j hj => by
  rcases (show j = 0 by omega) with rfl
  · first | exact Or.inl ⟨rfl, rfl⟩ | exact Or.inr ⟨rfl, rfl⟩⟩
theorem ns_Bk_20 : NS R_Bk 20 4 [none, some none, some none, some none, some none, some none, some none, some none, some none] := ⟨_, _, _, ty_Ro, rfl, in_Ro, ty_Ro_ok, tg1 37 (by decide +kernel) rfl, tg1 38 (by decide +kernel) rfl, tg1 4 (by decide +kernel) rfl, rfl, fun j hj => by
  rcases (show j = 0 ∨ j = 1 ∨ j = 2 ∨ j = 3 ∨ j = 4 ∨ j = 5 ∨ j = 6 ∨ j = 7 ∨ j = 8 by omega) with rfl | rfl | rfl | rfl | rfl | rfl | rfl | rfl | rfl
  · first | exact Or.inl ⟨rfl, rfl⟩ | exact Or.inr ⟨rfl, rfl⟩
  · first | exact Or.inl ⟨rfl, rfl⟩ | exact Or.inr ⟨rfl, rfl⟩
  · first | exact Or.inl ⟨rfl, rfl⟩ | exact Or.inr ⟨rfl, rfl⟩
  · first | exact Or.inl ⟨rfl, rfl⟩ | exact Or.inr ⟨rfl, rfl⟩
  · first | exact Or.inl ⟨rfl, rfl⟩ | exact Or.inr ⟨rfl, rfl⟩
  · first | exact Or.inl ⟨rfl, rfl⟩ | exact Or.inr ⟨rfl, rfl⟩
  · first | exact Or.inl ⟨rfl, rfl⟩ | exact Or.inr ⟨rfl, rfl⟩
  · first | exact Or.inl ⟨rfl, rfl⟩ | exact Or.inr ⟨rfl, rfl⟩
  · first | exact Or.inl ⟨rfl, rfl⟩ | exact Or.inr ⟨rfl, rfl⟩⟩
theorem ns_Bk_27 : NS R_Bk 27 3 [none, none, some none, some none, some none, some none] := ⟨_, _, _, ty_Of, rfl, in_Of, ty_Of_ok, tg1 88 (by decide +kernel) rfl, tg1 89 (by decide +kernel) rfl, tg1 5 (by decide +kernel) rfl, rfl, fun j hj => by
  rcases (show j = 0 ∨ j = 1 ∨ j = 2 ∨ j = 3 ∨ j = 4 ∨ j = 5 by omega) with rfl | rfl | rfl | rfl | rfl | rfl
  · first | exact Or.inl ⟨rfl, rfl⟩ | exact Or.inr ⟨rfl, rfl⟩
  · first | exact Or.inl ⟨rfl, rfl⟩ | exact Or.inr ⟨rfl, rfl⟩
  · first | exact Or.inl ⟨rfl, rfl⟩ | exact Or.inr ⟨rfl, rfl⟩
  · first | exact Or.inl ⟨rfl, rfl⟩ | exact Or.inr ⟨rfl, rfl⟩
  · first | exact Or.inl ⟨rfl, rfl⟩ | exact Or.inr ⟨rfl, rfl⟩
  · first | exact Or.inl ⟨rfl, rfl⟩ | exact Or.inr ⟨rfl, rfl⟩⟩
theorem ns_Bk_34 : NS R_Bk 34 6 [none, some none, some none, some none, some none, some none, some none, some none, some none, some none] := ⟨_, _, _, ty_Rm, rfl, in_Rm, ty_Rm_ok, tg1 125 (by decide +kernel) rfl, tg1 126 (by decide +kernel) rfl, tg1 6 (by decide +kernel) rfl, rfl, fun j hj => by
  rcases (show j = 0 ∨ j = 1 ∨ j = 2 ∨ j = 3 ∨ j = 4 ∨ j = 5 ∨ j = 6 ∨ j = 7 ∨ j = 8 ∨ j = 9 by omega) with rfl | rfl | rfl | rfl | rfl | rfl | rfl | rfl | rfl | rfl
  · first | exact Or.inl ⟨rfl, rfl⟩ | exact Or.inr ⟨rfl, rfl⟩
  · first | exact Or.inl ⟨rfl, rfl⟩ | exact Or.inr ⟨rfl, rfl⟩
  · first | exact Or.inl ⟨rfl, rfl⟩ | exact Or.inr ⟨rfl, rfl⟩
  · first | exact Or.inl ⟨rfl, rfl⟩ | exact Or.inr ⟨rfl, rfl⟩
  · first | exact Or.inl ⟨rfl, rfl⟩ | exact Or.inr ⟨rfl, rfl⟩
  · first | exact Or.inl ⟨rfl, rfl⟩ | exact Or.inr ⟨rfl, rfl⟩
  · first | exact Or.inl ⟨rfl, rfl⟩ | exact Or.inr ⟨rfl, rfl⟩
  · first | exact Or.inl ⟨rfl, rfl⟩ | exact Or.inr ⟨rfl, rfl⟩
  · first | exact Or.inl ⟨rfl, rfl⟩ | exact Or.inr ⟨rfl, rfl⟩
  · first | exact Or.inl ⟨rfl, rfl⟩ | exact Or.inr ⟨rfl, rfl⟩⟩
theorem ns_Hi_9 : NS R_Hi 9 0 [some none, some none, some none, some none, none, none, none] := ⟨_, _, _, ty_Bk, rfl, in_Bk, ty_Bk_ok, tg1 211 (by decide +kernel) rfl, tg1 21 (by decide +kernel) rfl, tg1 2 (by decide +kernel) rfl, rfl, fun j hj => by
  rcases (show j = 0 ∨ j = 1 ∨ j = 2 ∨ j = 3 ∨ j = 4 ∨ j = 5 ∨ j = 6 by omega) with rfl | rfl | rfl | rfl | rfl | rfl | rfl
  · first | exact Or.inl ⟨rfl, rfl⟩ | exact Or.inr ⟨rfl, rfl⟩
  · first | exact Or.inl ⟨rfl, rfl⟩ | exact Or.inr ⟨rfl, rfl⟩
  · first | exact Or.inl ⟨rfl, rfl⟩ | exact Or.inr ⟨rfl, rfl⟩
  · first | exact Or.inl ⟨rfl, rfl⟩ | exact Or.inr ⟨rfl, rfl⟩
  · first | exact Or.inl ⟨rfl, rfl⟩ | exact Or.inr ⟨rfl, rfl⟩
  · first | exact Or.inl ⟨rfl, rfl⟩ | exact Or.inr ⟨rfl, rfl⟩
  · first | exact Or.inl ⟨rfl, rfl⟩ | exact Or.inr ⟨rfl, rfl⟩⟩
theorem ns_Of_9 : NS R_Of 9 7 [some none] := ⟨_, _, _, ty_Rw, rfl, in_Rw, ty_Rw_ok, tg1 94 (by decide +kernel) rfl, tg1 27 (by decide +kernel) rfl, tg1 3 (by decide +kernel) rfl, rfl, fun j hj => by
  rcases (show j = 0 by omega) with rfl
  · first | exact Or.inl ⟨rfl, rfl⟩ | exact Or.inr ⟨rfl, rfl⟩⟩
theorem ns_Ro_9 : NS R_Ro 9 7 [some none] := ⟨_, _, _, ty_Rw, rfl, in_Rw, ty_Rw_ok, tg1 43 (by decide +kernel) rfl, tg1 27 (by decide +kernel) rfl, tg1 3 (by decide +kernel) rfl, rfl, fun j hj => by
  rcases (show j = 0 by omega) with rfl
  · first | exact Or.inl ⟨rfl, rfl⟩ | exact Or.inr ⟨rfl, rfl⟩⟩
theorem ns_Te_9 : NS R_Te 9 7 [some none] := ⟨_, _, _, ty_Rw, rfl, in_Rw, ty_Rw_ok, tg1 231 (by decide +kernel) rfl, tg1 27 (by decide +kernel) rfl, tg1 3 (by decide +kernel) rfl, rfl, fun j hj => by
  rcases (show j = 0 by omega) with rfl
  · first | exact Or.inl ⟨rfl, rfl⟩ | exact Or.inr ⟨rfl, rfl⟩⟩
theorem ns_Te_20 : NS R_Te 20 6 [none, some none, some none, some none, some none, some none, some none, some none, some none, some none] := ⟨_, _, _, ty_Rm, rfl, in_Rm, ty_Rm_ok, tg1 233 (by decide +kernel) rfl, tg1 126 (by decide +kernel) rfl, tg1 6 (by decide +kernel) rfl, rfl, fun j hj => by
  rcases (show j = 0 ∨ j = 1 ∨ j = 2 ∨ j = 3 ∨ j = 4 ∨ j = 5 ∨ j = 6 ∨ j = 7 ∨ j = 8 ∨ j = 9 by omega) with rfl | rfl | rfl | rfl | rfl | rfl | rfl | rfl | rfl | rfl
  · first | exact Or.inl ⟨rfl, rfl⟩ | exact Or.inr ⟨rfl, rfl⟩
  · first | exact Or.inl ⟨rfl, rfl⟩ | exact Or.inr ⟨rfl, rfl⟩
  · first | exact Or.inl ⟨rfl, rfl⟩ | exact Or.inr ⟨rfl, rfl⟩
  · first | exact Or.inl ⟨rfl, rfl⟩ | exact Or.inr ⟨rfl, rfl⟩
  · first | exact Or.inl ⟨rfl, rfl⟩ | exact Or.inr ⟨rfl, rfl⟩
  · first | exact Or.inl ⟨rfl, rfl⟩ | exact Or.inr ⟨rfl, rfl⟩
  · first | exact Or.inl ⟨rfl, rfl⟩ | exact Or.inr ⟨rfl, rfl⟩
  · first | exact Or.inl ⟨rfl, rfl⟩ | exact Or.inr ⟨rfl, rfl⟩
  · first | exact Or.inl ⟨rfl, rfl⟩ | exact Or.inr ⟨rfl, rfl⟩
  · first | exact Or.inl ⟨rfl, rfl⟩ | exact Or.inr ⟨rfl, rfl⟩⟩
theorem ns_Rm_9 : NS R_Rm 9 7 [some none] := ⟨_, _, _, ty_Rw, rfl, in_Rw, ty_Rw_ok, tg1 131 (by decide +kernel) rfl, tg1 27 (by decide +kernel) rfl, tg1 3 (by decide +kernel) rfl, rfl, fun j hj => by
  rcases (show j = 0 by omega) with rfl
  · first | exact Or.inl ⟨rfl, rfl⟩ | exact Or.inr ⟨rfl, rfl⟩⟩
theorem ns_La_10 : NS R_La 10 8 [some none, some none, some none, some none, some none, some none, some none, none] := ⟨_, _, _, ty_Cc, rfl, in_Cc, ty_Cc_ok, tg1 12 (by decide +kernel) rfl, tg1 13 (by decide +kernel) rfl, tg1 1 (by decide +kernel) rfl, rfl, fun j hj => by
  rcases (show j = 0 ∨ j = 1 ∨ j = 2 ∨ j = 3 ∨ j = 4 ∨ j = 5 ∨ j = 6 ∨ j = 7 by omega) with rfl | rfl | rfl | rfl | rfl | rfl | rfl | rfl
  · first | exact Or.inl ⟨rfl, rfl⟩ | exact Or.inr ⟨rfl, rfl⟩
  · first | exact Or.inl ⟨rfl, rfl⟩ | exact Or.inr ⟨rfl, rfl⟩
  · first | exact Or.inl ⟨rfl, rfl⟩ | exact Or.inr ⟨rfl, rfl⟩
  · first | exact Or.inl ⟨rfl, rfl⟩ | exact Or.inr ⟨rfl, rfl⟩
  · first | exact Or.inl ⟨rfl, rfl⟩ | exact Or.inr ⟨rfl, rfl⟩
  · first | exact Or.inl ⟨rfl, rfl⟩ | exact Or.inr ⟨rfl, rfl⟩
  · first | exact Or.inl ⟨rfl, rfl⟩ | exact Or.inr ⟨rfl, rfl⟩
  · first | exact Or.inl ⟨rfl, rfl⟩ | exact Or.inr ⟨rfl, rfl⟩⟩
theorem ml_Cc_1 : Cond.methodLink R_Cc 1 Lib.objectInit ∈ tbG := tg1 17 (by decide +kernel) rfl
theorem ml_Cc_9 : Cond.methodLink R_Cc 9 y_Bk_init ∈ tbG := tg1 22 (by decide +kernel) rfl
theorem ml_Cc_27 : Cond.methodLink R_Cc 27 y_Hi_init ∈ tbG := tg1 207 (by decide +kernel) rfl
theorem ml_Cc_46 : Cond.methodLink R_Cc 46 y_Cc_isKind ∈ tbG := tg3 36 (by decide +kernel) rfl
theorem ml_Cc_60 : Cond.methodLink R_Cc 60 y_Hi_record ∈ tbG := tg2 69 (by decide +kernel) rfl
theorem ml_Cc_64 : Cond.methodLink R_Cc 64 y_Ro_append ∈ tbG := tg3 39 (by decide +kernel) rfl
theorem ml_Cc_68 : Cond.methodLink R_Cc 68 y_Te_read ∈ tbG := tg3 67 (by decide +kernel) rfl
theorem ml_Cc_82 : Cond.methodLink R_Cc 82 y_Rm_appendAll ∈ tbG := tg3 114 (by decide +kernel) rfl
theorem ml_Cc_86 : Cond.methodLink R_Cc 86 y_Rm_has ∈ tbG := tg2 213 (by decide +kernel) rfl
theorem ml_Cc_89 : Cond.methodLink R_Cc 89 y_Ro_has ∈ tbG := tg2 180 (by decide +kernel) rfl
theorem ml_Cc_90 : Cond.methodLink R_Cc 90 y_Cc_isWay ∈ tbG := tg3 125 (by decide +kernel) rfl
theorem ml_Cc_93 : Cond.methodLink R_Cc 93 y_Bk_copyFrom ∈ tbG := tg3 128 (by decide +kernel) rfl
theorem ml_Cc_96 : Cond.methodLink R_Cc 96 y_Bk_lay ∈ tbG := tg3 129 (by decide +kernel) rfl
theorem ml_Cc_100 : Cond.methodLink R_Cc 100 y_Rm_isCovered ∈ tbG := tg2 217 (by decide +kernel) rfl
theorem ml_Cc_103 : Cond.methodLink R_Cc 103 y_Bk_lift ∈ tbG := tg3 191 (by decide +kernel) rfl
theorem ml_Cc_111 : Cond.methodLink R_Cc 111 y_Of_placeOf ∈ tbG := tg2 61 (by decide +kernel) rfl
theorem ml_Cc_116 : Cond.methodLink R_Cc 116 y_Bk_sellAt ∈ tbG := tg2 109 (by decide +kernel) rfl
theorem ml_Cc_119 : Cond.methodLink R_Cc 119 y_Of_smallOnes ∈ tbG := tg3 203 (by decide +kernel) rfl
theorem ml_Cc_123 : Cond.methodLink R_Cc 123 y_Bk_throwSmallOnes ∈ tbG := tg3 211 (by decide +kernel) rfl
theorem ml_Cc_126 : Cond.methodLink R_Cc 126 y_Cc_isSetting ∈ tbG := tg3 220 (by decide +kernel) rfl
theorem ml_Cc_134 : Cond.methodLink R_Cc 134 y_Rw_at ∈ tbG := tg2 142 (by decide +kernel) rfl
theorem ml_Cc_139 : Cond.methodLink R_Cc 139 y_Rw_put ∈ tbG := tg3 223 (by decide +kernel) rfl
theorem ml_Cc_143 : Cond.methodLink R_Cc 143 y_Te_append ∈ tbG := tg3 58 (by decide +kernel) rfl
theorem ml_Cc_150 : Cond.methodLink R_Cc 150 y_Hi_moveLatestTo ∈ tbG := tg2 134 (by decide +kernel) rfl
theorem ml_Cc_169 : Cond.methodLink R_Cc 169 y_Of_keptOf ∈ tbG := tg2 200 (by decide +kernel) rfl
theorem ml_Cc_172 : Cond.methodLink R_Cc 172 y_Of_areaOf ∈ tbG := tg2 204 (by decide +kernel) rfl
theorem ml_Cc_202 : Cond.methodLink R_Cc 202 y_Rm_area ∈ tbG := tg2 218 (by decide +kernel) rfl
theorem ml_Cc_208 : Cond.methodLink R_Cc 208 y_Cc_covering ∈ tbG := tg2 219 (by decide +kernel) rfl
theorem ml_Cc_215 : Cond.methodLink R_Cc 215 y_Rm_strips ∈ tbG := tg2 223 (by decide +kernel) rfl
theorem ml_Cc_218 : Cond.methodLink R_Cc 218 y_Rm_seams ∈ tbG := tg2 235 (by decide +kernel) rfl
theorem ml_Cc_222 : Cond.methodLink R_Cc 222 y_Rm_stripWidth ∈ tbG := tg3 16 (by decide +kernel) rfl
theorem ml_Cc_225 : Cond.methodLink R_Cc 225 y_Rm_stripLength ∈ tbG := tg3 21 (by decide +kernel) rfl
theorem ml_Cc_228 : Cond.methodLink R_Cc 228 y_Rm_source ∈ tbG := tg3 25 (by decide +kernel) rfl
theorem ml_Cc_231 : Cond.methodLink R_Cc 231 y_Rm_covered ∈ tbG := tg2 147 (by decide +kernel) rfl
theorem ml_Cc_238 : Cond.methodLink R_Cc 238 y_Rw_sum ∈ tbG := tg2 156 (by decide +kernel) rfl
theorem ml_Cc_241 : Cond.methodLink R_Cc 241 y_Rm_coveredArea ∈ tbG := tg2 160 (by decide +kernel) rfl
theorem ml_Cc_247 : Cond.methodLink R_Cc 247 y_Cc_setting ∈ tbG := tg2 172 (by decide +kernel) rfl
theorem ml_Bk_3 : Cond.methodLink R_Bk 3 Lib.objectInit ∈ tbG := tg1 25 (by decide +kernel) rfl
theorem ml_Bk_11 : Cond.methodLink R_Bk 11 y_Rw_init ∈ tbG := tg1 28 (by decide +kernel) rfl
theorem ml_Bk_41 : Cond.methodLink R_Bk 41 y_Rw_put ∈ tbG := tg1 174 (by decide +kernel) rfl
theorem ml_Bk_45 : Cond.methodLink R_Bk 45 y_Rw_copyFrom ∈ tbG := tg2 84 (by decide +kernel) rfl
theorem ml_Bk_49 : Cond.methodLink R_Bk 49 y_Ro_copyFrom ∈ tbG := tg2 94 (by decide +kernel) rfl
theorem ml_Bk_52 : Cond.methodLink R_Bk 52 y_Of_copyFrom ∈ tbG := tg2 99 (by decide +kernel) rfl
theorem ml_Bk_55 : Cond.methodLink R_Bk 55 y_Rm_copyFrom ∈ tbG := tg2 104 (by decide +kernel) rfl
theorem ml_Bk_62 : Cond.methodLink R_Bk 62 y_Rm_isCovered ∈ tbG := tg3 133 (by decide +kernel) rfl
theorem ml_Bk_66 : Cond.methodLink R_Bk 66 y_Rw_at ∈ tbG := tg2 113 (by decide +kernel) rfl
theorem ml_Bk_70 : Cond.methodLink R_Bk 70 y_Rm_isAcross ∈ tbG := tg3 134 (by decide +kernel) rfl
theorem ml_Bk_77 : Cond.methodLink R_Bk 77 y_Rm_putCovering ∈ tbG := tg3 138 (by decide +kernel) rfl
theorem ml_Bk_81 : Cond.methodLink R_Bk 81 y_Rm_strips ∈ tbG := tg3 142 (by decide +kernel) rfl
theorem ml_Bk_84 : Cond.methodLink R_Bk 84 y_Rm_stripWidth ∈ tbG := tg3 143 (by decide +kernel) rfl
theorem ml_Bk_88 : Cond.methodLink R_Bk 88 y_Rm_stripLength ∈ tbG := tg3 144 (by decide +kernel) rfl
theorem ml_Bk_91 : Cond.methodLink R_Bk 91 y_Bk_takePiece ∈ tbG := tg3 145 (by decide +kernel) rfl
theorem ml_Bk_98 : Cond.methodLink R_Bk 98 y_Rw_add ∈ tbG := tg2 118 (by decide +kernel) rfl
theorem ml_Bk_101 : Cond.methodLink R_Bk 101 y_Bk_leaveRests ∈ tbG := tg3 161 (by decide +kernel) rfl
theorem ml_Bk_105 : Cond.methodLink R_Bk 105 y_Rm_area ∈ tbG := tg3 181 (by decide +kernel) rfl
theorem ml_Bk_111 : Cond.methodLink R_Bk 111 y_Rm_seams ∈ tbG := tg3 182 (by decide +kernel) rfl
theorem ml_Bk_114 : Cond.methodLink R_Bk 114 y_Bk_seamPrice ∈ tbG := tg3 183 (by decide +kernel) rfl
theorem ml_Bk_118 : Cond.methodLink R_Bk 118 y_Of_placeFor ∈ tbG := tg3 149 (by decide +kernel) rfl
theorem ml_Bk_135 : Cond.methodLink R_Bk 135 y_Rm_putSource ∈ tbG := tg3 157 (by decide +kernel) rfl
theorem ml_Bk_139 : Cond.methodLink R_Bk 139 y_Of_removeAt ∈ tbG := tg2 122 (by decide +kernel) rfl
theorem ml_Bk_145 : Cond.methodLink R_Bk 145 y_Bk_isLongBeside ∈ tbG := tg3 165 (by decide +kernel) rfl
theorem ml_Bk_148 : Cond.methodLink R_Bk 148 y_Bk_leaveRest ∈ tbG := tg3 172 (by decide +kernel) rfl
theorem ml_Bk_151 : Cond.methodLink R_Bk 151 Lib.Math.max.name ∈ tbG := tg3 169 (by decide +kernel) rfl
theorem ml_Bk_159 : Cond.methodLink R_Bk 159 y_Of_append ∈ tbG := tg3 176 (by decide +kernel) rfl
theorem ml_Bk_165 : Cond.methodLink R_Bk 165 y_Rm_putBare ∈ tbG := tg3 195 (by decide +kernel) rfl
theorem ml_Bk_169 : Cond.methodLink R_Bk 169 y_Of_area ∈ tbG := tg2 114 (by decide +kernel) rfl
theorem ml_Bk_176 : Cond.methodLink R_Bk 176 y_Of_isSmall ∈ tbG := tg3 215 (by decide +kernel) rfl
theorem ml_Ch_1 : Cond.methodLink R_Ch 1 Lib.objectInit ∈ tbG := tg2 21 (by decide +kernel) rfl
theorem ml_Hi_3 : Cond.methodLink R_Hi 3 Lib.objectInit ∈ tbG := tg1 210 (by decide +kernel) rfl
theorem ml_Hi_17 : Cond.methodLink R_Hi 17 y_Bk_init ∈ tbG := tg1 213 (by decide +kernel) rfl
theorem ml_Hi_25 : Cond.methodLink R_Hi 25 y_Hi_slotAt ∈ tbG := tg2 73 (by decide +kernel) rfl
theorem ml_Hi_29 : Cond.methodLink R_Hi 29 y_Bk_copyFrom ∈ tbG := tg2 80 (by decide +kernel) rfl
theorem ml_Hi_33 : Cond.methodLink R_Hi 33 ⟨"java/lang/Math", "floorMod", "(II)I"⟩ ∈ tbG := tg2 77 (by decide +kernel) rfl
theorem ml_Of_3 : Cond.methodLink R_Of 3 Lib.objectInit ∈ tbG := tg1 93 (by decide +kernel) rfl
theorem ml_Of_11 : Cond.methodLink R_Of 11 y_Rw_init ∈ tbG := tg1 95 (by decide +kernel) rfl
theorem ml_Of_36 : Cond.methodLink R_Of 36 y_Rw_put ∈ tbG := tg3 180 (by decide +kernel) rfl
theorem ml_Of_40 : Cond.methodLink R_Of 40 y_Rw_removeAt ∈ tbG := tg2 126 (by decide +kernel) rfl
theorem ml_Of_43 : Cond.methodLink R_Of 43 y_Rw_at ∈ tbG := tg2 65 (by decide +kernel) rfl
theorem ml_Of_47 : Cond.methodLink R_Of 47 y_Of_area ∈ tbG := tg2 208 (by decide +kernel) rfl
theorem ml_Of_50 : Cond.methodLink R_Of 50 y_Of_isSmall ∈ tbG := tg3 207 (by decide +kernel) rfl
theorem ml_Of_54 : Cond.methodLink R_Of 54 y_Of_holds ∈ tbG := tg3 153 (by decide +kernel) rfl
theorem ml_Of_60 : Cond.methodLink R_Of 60 y_Rw_copyFrom ∈ tbG := tg2 103 (by decide +kernel) rfl
theorem ml_Ro_3 : Cond.methodLink R_Ro 3 Lib.objectInit ∈ tbG := tg1 42 (by decide +kernel) rfl
theorem ml_Ro_11 : Cond.methodLink R_Ro 11 y_Rw_init ∈ tbG := tg1 44 (by decide +kernel) rfl
theorem ml_Ro_45 : Cond.methodLink R_Ro 45 y_Rw_put ∈ tbG := tg3 43 (by decide +kernel) rfl
theorem ml_Ro_49 : Cond.methodLink R_Ro 49 y_Rw_copyFrom ∈ tbG := tg2 98 (by decide +kernel) rfl
theorem ml_Te_3 : Cond.methodLink R_Te 3 Lib.objectInit ∈ tbG := tg1 230 (by decide +kernel) rfl
theorem ml_Te_11 : Cond.methodLink R_Te 11 y_Rw_init ∈ tbG := tg1 232 (by decide +kernel) rfl
theorem ml_Te_31 : Cond.methodLink R_Te 31 y_Rw_put ∈ tbG := tg3 62 (by decide +kernel) rfl
theorem ml_Te_38 : Cond.methodLink R_Te 38 y_Te_beginRoom ∈ tbG := tg3 71 (by decide +kernel) rfl
theorem ml_Te_41 : Cond.methodLink R_Te 41 y_Rw_at ∈ tbG := tg3 80 (by decide +kernel) rfl
theorem ml_Te_45 : Cond.methodLink R_Te 45 y_Te_takes ∈ tbG := tg3 81 (by decide +kernel) rfl
theorem ml_Te_52 : Cond.methodLink R_Te 52 y_Rm_begin ∈ tbG := tg3 75 (by decide +kernel) rfl
theorem ml_Te_58 : Cond.methodLink R_Te 58 y_Te_takesDigit ∈ tbG := tg3 85 (by decide +kernel) rfl
theorem ml_Te_61 : Cond.methodLink R_Te 61 y_Te_takesBetweenSizes ∈ tbG := tg3 89 (by decide +kernel) rfl
theorem ml_Te_64 : Cond.methodLink R_Te 64 y_Te_takesBehindSizes ∈ tbG := tg3 93 (by decide +kernel) rfl
theorem ml_Te_67 : Cond.methodLink R_Te 67 y_Te_takesLight ∈ tbG := tg3 102 (by decide +kernel) rfl
theorem ml_Te_70 : Cond.methodLink R_Te 70 y_Te_takesBetweenRooms ∈ tbG := tg3 110 (by decide +kernel) rfl
theorem ml_Te_79 : Cond.methodLink R_Te 79 y_Rm_addRectangle ∈ tbG := tg3 97 (by decide +kernel) rfl
theorem ml_Te_82 : Cond.methodLink R_Te 82 y_Rm_finish ∈ tbG := tg3 106 (by decide +kernel) rfl
theorem ml_Rm_3 : Cond.methodLink R_Rm 3 Lib.objectInit ∈ tbG := tg1 130 (by decide +kernel) rfl
theorem ml_Rm_11 : Cond.methodLink R_Rm 11 y_Rw_init ∈ tbG := tg1 132 (by decide +kernel) rfl
theorem ml_Rm_48 : Cond.methodLink R_Rm 48 y_Rw_at ∈ tbG := tg2 155 (by decide +kernel) rfl
theorem ml_Rm_52 : Cond.methodLink R_Rm 52 y_Rw_put ∈ tbG := tg3 79 (by decide +kernel) rfl
theorem ml_Rm_56 : Cond.methodLink R_Rm 56 y_Rm_cell ∈ tbG := tg2 168 (by decide +kernel) rfl
theorem ml_Rm_60 : Cond.methodLink R_Rm 60 y_Rw_add ∈ tbG := tg3 101 (by decide +kernel) rfl
theorem ml_Rm_63 : Cond.methodLink R_Rm 63 y_Rm_begin ∈ tbG := tg3 118 (by decide +kernel) rfl
theorem ml_Rm_66 : Cond.methodLink R_Rm 66 y_Rm_addRectangle ∈ tbG := tg3 119 (by decide +kernel) rfl
theorem ml_Rm_69 : Cond.methodLink R_Rm 69 y_Rm_finish ∈ tbG := tg3 120 (by decide +kernel) rfl
theorem ml_Rm_72 : Cond.methodLink R_Rm 72 y_Rm_isCovered ∈ tbG := tg2 151 (by decide +kernel) rfl
theorem ml_Rm_76 : Cond.methodLink R_Rm 76 y_Rm_area ∈ tbG := tg2 164 (by decide +kernel) rfl
theorem ml_Rm_79 : Cond.methodLink R_Rm 79 y_Rm_rectangleWidth ∈ tbG := tg2 231 (by decide +kernel) rfl
theorem ml_Rm_83 : Cond.methodLink R_Rm 83 y_Rm_stripsIn ∈ tbG := tg2 227 (by decide +kernel) rfl
theorem ml_Rm_86 : Cond.methodLink R_Rm 86 y_Rm_rectangleLength ∈ tbG := tg2 239 (by decide +kernel) rfl
theorem ml_Rm_89 : Cond.methodLink R_Rm 89 Lib.Math.min.name ∈ tbG := tg3 20 (by decide +kernel) rfl
theorem ml_Rm_100 : Cond.methodLink R_Rm 100 y_Rw_copyFrom ∈ tbG := tg2 108 (by decide +kernel) rfl
theorem ml_Rw_1 : Cond.methodLink R_Rw 1 Lib.objectInit ∈ tbG := tg1 31 (by decide +kernel) rfl
theorem ml_Rw_13 : Cond.methodLink R_Rw 13 Lib.Math.min.name ∈ tbG := tg2 88 (by decide +kernel) rfl
theorem ml_Rw_19 : Cond.methodLink R_Rw 19 arraycopyName ∈ tbG := tg2 91 (by decide +kernel) rfl
theorem ml_La_9 : Cond.methodLink R_La 9 y_Cc_count ∈ tbG := tg2 143 (by decide +kernel) rfl
theorem ml_La_15 : Cond.methodLink R_La 15 y_Cc_rollOf ∈ tbG := tg2 196 (by decide +kernel) rfl
theorem ml_La_19 : Cond.methodLink R_La 19 y_Cc_room ∈ tbG := tg2 209 (by decide +kernel) rfl
theorem ml_La_22 : Cond.methodLink R_La 22 y_Cc_wasted ∈ tbG := tg2 176 (by decide +kernel) rfl
theorem ml_La_26 : Cond.methodLink R_La 26 y_Cc_strip ∈ tbG := tg3 12 (by decide +kernel) rfl
theorem ml_La_30 : Cond.methodLink R_La 30 y_Cc_type ∈ tbG := tg3 54 (by decide +kernel) rfl
theorem ml_La_34 : Cond.methodLink R_La 34 y_Cc_clearText ∈ tbG := tg3 47 (by decide +kernel) rfl
theorem ml_La_38 : Cond.methodLink R_La 38 y_La_low ∈ tbG := tg2 189 (by decide +kernel) rfl
theorem ml_La_43 : Cond.methodLink R_La 43 y_La_number ∈ tbG := tg3 51 (by decide +kernel) rfl
theorem ml_La_47 : Cond.methodLink R_La 47 y_Cc_rooms ∈ tbG := tg3 63 (by decide +kernel) rfl
theorem ml_La_50 : Cond.methodLink R_La 50 y_Cc_roll ∈ tbG := tg3 32 (by decide +kernel) rfl
theorem ml_La_54 : Cond.methodLink R_La 54 y_La_read ∈ tbG := tg3 44 (by decide +kernel) rfl
theorem ml_La_58 : Cond.methodLink R_La 58 y_Cc_cover ∈ tbG := tg3 121 (by decide +kernel) rfl
theorem ml_La_61 : Cond.methodLink R_La 61 y_Cc_takeUp ∈ tbG := tg3 187 (by decide +kernel) rfl
theorem ml_La_64 : Cond.methodLink R_La 64 y_Cc_sell ∈ tbG := tg2 57 (by decide +kernel) rfl
theorem ml_La_67 : Cond.methodLink R_La 67 y_Cc_clear ∈ tbG := tg3 199 (by decide +kernel) rfl
theorem ml_La_70 : Cond.methodLink R_La 70 y_Cc_set ∈ tbG := tg3 216 (by decide +kernel) rfl
theorem ml_La_73 : Cond.methodLink R_La 73 y_Cc_offcut ∈ tbG := tg2 138 (by decide +kernel) rfl
theorem ml_La_76 : Cond.methodLink R_La 76 y_Cc_undo ∈ tbG := tg2 130 (by decide +kernel) rfl
theorem ml_La_79 : Cond.methodLink R_La 79 y_Cc_init ∈ tbG := tg1 14 (by decide +kernel) rfl
theorem ml_La_80 : Cond.methodLink R_La 80 y_La_cell ∈ tbG := tg2 185 (by decide +kernel) rfl
theorem ml_La_84 : Cond.methodLink R_La 84 y_La_tell ∈ tbG := tg2 193 (by decide +kernel) rfl
theorem ml_La_88 : Cond.methodLink R_La 88 y_La_act ∈ tbG := tg3 29 (by decide +kernel) rfl
theorem ml_La_92 : Cond.methodLink R_La 92 y_La_same ∈ tbG := tg3 3 (by decide +kernel) rfl
theorem ml_La_96 : Cond.methodLink R_La 96 y_La_areas ∈ tbG := tg3 6 (by decide +kernel) rfl
theorem ml_La_100 : Cond.methodLink R_La 100 y_La_rooms ∈ tbG := tg3 9 (by decide +kernel) rfl
theorem ml_La_102 : Cond.methodLink R_La 102 y_La_again ∈ tbG := tg3 224 (by decide +kernel) rfl
theorem mn_Cc_34 : ∀ U : State, nestK U → va_Nw (.methodLinkNest R_Cc 34 y_Te_init "CarpetCounter") U := fun U h => h.1
theorem mn_Cc_41 : ∀ U : State, nestK U → va_Nw (.methodLinkNest R_Cc 41 y_Ch_init "CarpetCounter") U := fun U h => h.2.1
theorem mn_Bk_22 : ∀ U : State, nestK U → va_Nw (.methodLinkNest R_Bk 22 y_Ro_init "CarpetCounter") U := fun U h => h.2.2.1
theorem mn_Bk_29 : ∀ U : State, nestK U → va_Nw (.methodLinkNest R_Bk 29 y_Of_init "CarpetCounter") U := fun U h => h.2.2.2.1
theorem mn_Bk_36 : ∀ U : State, nestK U → va_Nw (.methodLinkNest R_Bk 36 y_Rm_init "CarpetCounter") U := fun U h => h.2.2.2.2.1
theorem mn_Te_22 : ∀ U : State, nestK U → va_Nw (.methodLinkNest R_Te 22 y_Rm_init "CarpetCounter") U := fun U h => h.2.2.2.2.2
theorem ac_int : Cond.arrayClass .int ∈ tbG := tg1 36 (by decide +kernel) rfl
theorem v_Bk_copyFrom : VI y_Bk_copyFrom c_Bk_copyFrom 2 none 1 := ⟨⟨by decide +kernel, by decide +kernel, by decide +kernel⟩, tg2 81 (by decide +kernel) rfl, tg2 82 (by decide +kernel) rfl, tg1 2 (by decide +kernel) rfl, tg2 83 (by decide +kernel) rfl⟩
abbrev M_Bk_copyFrom : Mt := (R_Bk, y_Bk_copyFrom, c_Bk_copyFrom, 2, none, { frames := 3, cells := 0, slots := 0, locals := 68 })
theorem v_Bk_init : VC y_Bk_init c_Bk_init 1 0 := ⟨⟨by decide +kernel, by decide +kernel, by decide +kernel⟩, tg1 23 (by decide +kernel) rfl, tg1 2 (by decide +kernel) rfl, tg1 24 (by decide +kernel) rfl, rfl⟩
abbrev M_Bk_init : Mt := (R_Bk, y_Bk_init, c_Bk_init, 1, none, { frames := 3, cells := 47, slots := 15887, locals := 61 })
theorem v_Bk_isLongBeside : VI y_Bk_isLongBeside c_Bk_isLongBeside 8 (some FieldType.boolean) 2 := ⟨⟨by decide +kernel, by decide +kernel, by decide +kernel⟩, tg3 167 (by decide +kernel) rfl, tg_p (k := 7) 13 (by decide +kernel), tg1 2 (by decide +kernel) rfl, tg3 168 (by decide +kernel) rfl⟩
abbrev M_Bk_isLongBeside : Mt := (R_Bk, y_Bk_isLongBeside, c_Bk_isLongBeside, 8, (some FieldType.boolean), { frames := 1, cells := 0, slots := 0, locals := 21 })
theorem v_Bk_lay : VI y_Bk_lay c_Bk_lay 8 (some FieldType.int) 3 := ⟨⟨by decide +kernel, by decide +kernel, by decide +kernel⟩, tg3 130 (by decide +kernel) rfl, tg3 131 (by decide +kernel) rfl, tg1 2 (by decide +kernel) rfl, tg3 132 (by decide +kernel) rfl⟩
abbrev M_Bk_lay : Mt := (R_Bk, y_Bk_lay, c_Bk_lay, 8, (some FieldType.int), { frames := 4, cells := 0, slots := 0, locals := 96 })
theorem v_Bk_leaveRest : VI y_Bk_leaveRest c_Bk_leaveRest 5 (some FieldType.boolean) 3 := ⟨⟨by decide +kernel, by decide +kernel, by decide +kernel⟩, tg3 174 (by decide +kernel) rfl, tg_p (k := 7) 14 (by decide +kernel), tg1 2 (by decide +kernel) rfl, tg3 175 (by decide +kernel) rfl⟩
abbrev M_Bk_leaveRest : Mt := (R_Bk, y_Bk_leaveRest, c_Bk_leaveRest, 5, (some FieldType.boolean), { frames := 2, cells := 0, slots := 0, locals := 45 })
theorem v_Bk_leaveRests : VI y_Bk_leaveRests c_Bk_leaveRests 7 (some FieldType.boolean) 3 := ⟨⟨by decide +kernel, by decide +kernel, by decide +kernel⟩, tg3 163 (by decide +kernel) rfl, tg_p (k := 7) 12 (by decide +kernel), tg1 2 (by decide +kernel) rfl, tg3 164 (by decide +kernel) rfl⟩
abbrev M_Bk_leaveRests : Mt := (R_Bk, y_Bk_leaveRests, c_Bk_leaveRests, 7, (some FieldType.boolean), { frames := 3, cells := 0, slots := 0, locals := 69 })
theorem v_Bk_lift : VI y_Bk_lift c_Bk_lift 8 (some FieldType.int) 1 := ⟨⟨by decide +kernel, by decide +kernel, by decide +kernel⟩, tg3 192 (by decide +kernel) rfl, tg3 193 (by decide +kernel) rfl, tg1 2 (by decide +kernel) rfl, tg3 194 (by decide +kernel) rfl⟩
abbrev M_Bk_lift : Mt := (R_Bk, y_Bk_lift, c_Bk_lift, 8, (some FieldType.int), { frames := 4, cells := 0, slots := 0, locals := 96 })
theorem v_Bk_seamPrice : VI y_Bk_seamPrice c_Bk_seamPrice 4 (some FieldType.int) 2 := ⟨⟨by decide +kernel, by decide +kernel, by decide +kernel⟩, tg3 185 (by decide +kernel) rfl, tg_p (k := 7) 15 (by decide +kernel), tg1 2 (by decide +kernel) rfl, tg3 186 (by decide +kernel) rfl⟩
abbrev M_Bk_seamPrice : Mt := (R_Bk, y_Bk_seamPrice, c_Bk_seamPrice, 4, (some FieldType.int), { frames := 2, cells := 0, slots := 0, locals := 44 })
theorem v_Bk_sellAt : VI y_Bk_sellAt c_Bk_sellAt 5 (some FieldType.int) 1 := ⟨⟨by decide +kernel, by decide +kernel, by decide +kernel⟩, tg2 110 (by decide +kernel) rfl, tg2 111 (by decide +kernel) rfl, tg1 2 (by decide +kernel) rfl, tg2 112 (by decide +kernel) rfl⟩
abbrev M_Bk_sellAt : Mt := (R_Bk, y_Bk_sellAt, c_Bk_sellAt, 5, (some FieldType.int), { frames := 2, cells := 0, slots := 0, locals := 43 })
theorem v_Bk_takePiece : VI y_Bk_takePiece c_Bk_takePiece 7 (some FieldType.boolean) 5 := ⟨⟨by decide +kernel, by decide +kernel, by decide +kernel⟩, tg3 147 (by decide +kernel) rfl, tg_p (k := 7) 11 (by decide +kernel), tg1 2 (by decide +kernel) rfl, tg3 148 (by decide +kernel) rfl⟩
abbrev M_Bk_takePiece : Mt := (R_Bk, y_Bk_takePiece, c_Bk_takePiece, 7, (some FieldType.boolean), { frames := 3, cells := 0, slots := 0, locals := 69 })
theorem v_Bk_throwSmallOnes : VI y_Bk_throwSmallOnes c_Bk_throwSmallOnes 5 (some FieldType.int) 2 := ⟨⟨by decide +kernel, by decide +kernel, by decide +kernel⟩, tg3 212 (by decide +kernel) rfl, tg3 213 (by decide +kernel) rfl, tg1 2 (by decide +kernel) rfl, tg3 214 (by decide +kernel) rfl⟩
abbrev M_Bk_throwSmallOnes : Mt := (R_Bk, y_Bk_throwSmallOnes, c_Bk_throwSmallOnes, 5, (some FieldType.int), { frames := 3, cells := 0, slots := 0, locals := 65 })
theorem v_Cc_clear : VI y_Cc_clear c_Cc_clear 3 (some FieldType.int) 2 := ⟨⟨by decide +kernel, by decide +kernel, by decide +kernel⟩, tg3 200 (by decide +kernel) rfl, tg3 201 (by decide +kernel) rfl, tg1 1 (by decide +kernel) rfl, tg3 202 (by decide +kernel) rfl⟩
abbrev M_Cc_clear : Mt := (R_Cc, y_Cc_clear, c_Cc_clear, 3, (some FieldType.int), { frames := 5, cells := 0, slots := 0, locals := 111 })
theorem v_Cc_clearText : VI y_Cc_clearText c_Cc_clearText 2 (some FieldType.int) 0 := ⟨⟨by decide +kernel, by decide +kernel, by decide +kernel⟩, tg3 48 (by decide +kernel) rfl, tg3 49 (by decide +kernel) rfl, tg1 1 (by decide +kernel) rfl, tg3 50 (by decide +kernel) rfl⟩
abbrev M_Cc_clearText : Mt := (R_Cc, y_Cc_clearText, c_Cc_clearText, 2, (some FieldType.int), { frames := 0, cells := 0, slots := 0, locals := 0 })
theorem v_Cc_count : VI y_Cc_count c_Cc_count 2 (some FieldType.int) 1 := ⟨⟨by decide +kernel, by decide +kernel, by decide +kernel⟩, tg2 144 (by decide +kernel) rfl, tg2 145 (by decide +kernel) rfl, tg1 1 (by decide +kernel) rfl, tg2 146 (by decide +kernel) rfl⟩
abbrev M_Cc_count : Mt := (R_Cc, y_Cc_count, c_Cc_count, 2, (some FieldType.int), { frames := 3, cells := 0, slots := 0, locals := 69 })
theorem v_Cc_cover : VI y_Cc_cover c_Cc_cover 5 (some FieldType.int) 3 := ⟨⟨by decide +kernel, by decide +kernel, by decide +kernel⟩, tg3 122 (by decide +kernel) rfl, tg3 123 (by decide +kernel) rfl, tg1 1 (by decide +kernel) rfl, tg3 124 (by decide +kernel) rfl⟩
abbrev M_Cc_cover : Mt := (R_Cc, y_Cc_cover, c_Cc_cover, 5, (some FieldType.int), { frames := 5, cells := 0, slots := 0, locals := 123 })
theorem v_Cc_covering : VI y_Cc_covering c_Cc_covering 3 (some FieldType.int) 2 := ⟨⟨by decide +kernel, by decide +kernel, by decide +kernel⟩, tg2 221 (by decide +kernel) rfl, tg_p (k := 8) 2 (by decide +kernel), tg1 1 (by decide +kernel) rfl, tg2 222 (by decide +kernel) rfl⟩
abbrev M_Cc_covering : Mt := (R_Cc, y_Cc_covering, c_Cc_covering, 3, (some FieldType.int), { frames := 4, cells := 0, slots := 0, locals := 93 })
theorem v_Cc_init : VC y_Cc_init c_Cc_init 1 0 := ⟨⟨by decide +kernel, by decide +kernel, by decide +kernel⟩, tg1 15 (by decide +kernel) rfl, tg1 1 (by decide +kernel) rfl, tg1 16 (by decide +kernel) rfl, rfl⟩
abbrev M_Cc_init : Mt := (R_Cc, y_Cc_init, c_Cc_init, 1, none, { frames := 5, cells := 409, slots := 134390, locals := 102 })
theorem v_Cc_isKind : VS y_Cc_isKind c_Cc_isKind 1 (some FieldType.boolean) 1 := ⟨⟨by decide +kernel, by decide +kernel, by decide +kernel⟩, tg3 37 (by decide +kernel) rfl, tg1 1 (by decide +kernel) rfl, tg3 38 (by decide +kernel) rfl⟩
abbrev M_Cc_isKind : Mt := (R_Cc, y_Cc_isKind, c_Cc_isKind, 1, (some FieldType.boolean), { frames := 0, cells := 0, slots := 0, locals := 0 })
theorem v_Cc_isSetting : VS y_Cc_isSetting c_Cc_isSetting 2 (some FieldType.boolean) 2 := ⟨⟨by decide +kernel, by decide +kernel, by decide +kernel⟩, tg3 221 (by decide +kernel) rfl, tg1 1 (by decide +kernel) rfl, tg3 222 (by decide +kernel) rfl⟩
abbrev M_Cc_isSetting : Mt := (R_Cc, y_Cc_isSetting, c_Cc_isSetting, 2, (some FieldType.boolean), { frames := 0, cells := 0, slots := 0, locals := 0 })
theorem v_Cc_isWay : VS y_Cc_isWay c_Cc_isWay 1 (some FieldType.boolean) 1 := ⟨⟨by decide +kernel, by decide +kernel, by decide +kernel⟩, tg3 126 (by decide +kernel) rfl, tg1 1 (by decide +kernel) rfl, tg3 127 (by decide +kernel) rfl⟩
abbrev M_Cc_isWay : Mt := (R_Cc, y_Cc_isWay, c_Cc_isWay, 1, (some FieldType.boolean), { frames := 0, cells := 0, slots := 0, locals := 0 })
theorem v_Cc_offcut : VI y_Cc_offcut c_Cc_offcut 4 (some FieldType.int) 2 := ⟨⟨by decide +kernel, by decide +kernel, by decide +kernel⟩, tg2 139 (by decide +kernel) rfl, tg2 140 (by decide +kernel) rfl, tg1 1 (by decide +kernel) rfl, tg2 141 (by decide +kernel) rfl⟩
abbrev M_Cc_offcut : Mt := (R_Cc, y_Cc_offcut, c_Cc_offcut, 4, (some FieldType.int), { frames := 2, cells := 0, slots := 0, locals := 43 })
theorem v_Cc_roll : VI y_Cc_roll c_Cc_roll 5 (some FieldType.int) 4 := ⟨⟨by decide +kernel, by decide +kernel, by decide +kernel⟩, tg3 33 (by decide +kernel) rfl, tg3 34 (by decide +kernel) rfl, tg1 1 (by decide +kernel) rfl, tg3 35 (by decide +kernel) rfl⟩
abbrev M_Cc_roll : Mt := (R_Cc, y_Cc_roll, c_Cc_roll, 5, (some FieldType.int), { frames := 5, cells := 0, slots := 0, locals := 111 })
theorem v_Cc_rollOf : VI y_Cc_rollOf c_Cc_rollOf 3 (some FieldType.int) 2 := ⟨⟨by decide +kernel, by decide +kernel, by decide +kernel⟩, tg2 197 (by decide +kernel) rfl, tg2 198 (by decide +kernel) rfl, tg1 1 (by decide +kernel) rfl, tg2 199 (by decide +kernel) rfl⟩
abbrev M_Cc_rollOf : Mt := (R_Cc, y_Cc_rollOf, c_Cc_rollOf, 3, (some FieldType.int), { frames := 3, cells := 0, slots := 0, locals := 65 })
theorem v_Cc_room : VI y_Cc_room c_Cc_room 4 (some FieldType.int) 2 := ⟨⟨by decide +kernel, by decide +kernel, by decide +kernel⟩, tg2 210 (by decide +kernel) rfl, tg2 211 (by decide +kernel) rfl, tg1 1 (by decide +kernel) rfl, tg2 212 (by decide +kernel) rfl⟩
abbrev M_Cc_room : Mt := (R_Cc, y_Cc_room, c_Cc_room, 4, (some FieldType.int), { frames := 5, cells := 0, slots := 0, locals := 115 })
theorem v_Cc_rooms : VI y_Cc_rooms c_Cc_rooms 3 (some FieldType.int) 0 := ⟨⟨by decide +kernel, by decide +kernel, by decide +kernel⟩, tg3 64 (by decide +kernel) rfl, tg3 65 (by decide +kernel) rfl, tg1 1 (by decide +kernel) rfl, tg3 66 (by decide +kernel) rfl⟩
abbrev M_Cc_rooms : Mt := (R_Cc, y_Cc_rooms, c_Cc_rooms, 3, (some FieldType.int), { frames := 6, cells := 0, slots := 0, locals := 125 })
theorem v_Cc_sell : VI y_Cc_sell c_Cc_sell 3 (some FieldType.int) 1 := ⟨⟨by decide +kernel, by decide +kernel, by decide +kernel⟩, tg2 58 (by decide +kernel) rfl, tg2 59 (by decide +kernel) rfl, tg1 1 (by decide +kernel) rfl, tg2 60 (by decide +kernel) rfl⟩
abbrev M_Cc_sell : Mt := (R_Cc, y_Cc_sell, c_Cc_sell, 3, (some FieldType.int), { frames := 5, cells := 0, slots := 0, locals := 111 })
theorem v_Cc_set : VI y_Cc_set c_Cc_set 4 (some FieldType.int) 2 := ⟨⟨by decide +kernel, by decide +kernel, by decide +kernel⟩, tg3 217 (by decide +kernel) rfl, tg3 218 (by decide +kernel) rfl, tg1 1 (by decide +kernel) rfl, tg3 219 (by decide +kernel) rfl⟩
abbrev M_Cc_set : Mt := (R_Cc, y_Cc_set, c_Cc_set, 4, (some FieldType.int), { frames := 5, cells := 0, slots := 0, locals := 111 })
theorem v_Cc_setting : VI y_Cc_setting c_Cc_setting 2 (some FieldType.int) 1 := ⟨⟨by decide +kernel, by decide +kernel, by decide +kernel⟩, tg2 174 (by decide +kernel) rfl, tg_p (k := 8) 1 (by decide +kernel), tg1 1 (by decide +kernel) rfl, tg2 175 (by decide +kernel) rfl⟩
abbrev M_Cc_setting : Mt := (R_Cc, y_Cc_setting, c_Cc_setting, 2, (some FieldType.int), { frames := 1, cells := 0, slots := 0, locals := 21 })
theorem v_Cc_strip : VI y_Cc_strip c_Cc_strip 4 (some FieldType.int) 3 := ⟨⟨by decide +kernel, by decide +kernel, by decide +kernel⟩, tg3 13 (by decide +kernel) rfl, tg3 14 (by decide +kernel) rfl, tg1 1 (by decide +kernel) rfl, tg3 15 (by decide +kernel) rfl⟩
abbrev M_Cc_strip : Mt := (R_Cc, y_Cc_strip, c_Cc_strip, 4, (some FieldType.int), { frames := 4, cells := 0, slots := 0, locals := 96 })
theorem v_Cc_takeUp : VI y_Cc_takeUp c_Cc_takeUp 2 (some FieldType.int) 1 := ⟨⟨by decide +kernel, by decide +kernel, by decide +kernel⟩, tg3 188 (by decide +kernel) rfl, tg3 189 (by decide +kernel) rfl, tg1 1 (by decide +kernel) rfl, tg3 190 (by decide +kernel) rfl⟩
abbrev M_Cc_takeUp : Mt := (R_Cc, y_Cc_takeUp, c_Cc_takeUp, 2, (some FieldType.int), { frames := 5, cells := 0, slots := 0, locals := 123 })
theorem v_Cc_type : VI y_Cc_type c_Cc_type 2 (some FieldType.int) 1 := ⟨⟨by decide +kernel, by decide +kernel, by decide +kernel⟩, tg3 55 (by decide +kernel) rfl, tg3 56 (by decide +kernel) rfl, tg1 1 (by decide +kernel) rfl, tg3 57 (by decide +kernel) rfl⟩
abbrev M_Cc_type : Mt := (R_Cc, y_Cc_type, c_Cc_type, 2, (some FieldType.int), { frames := 2, cells := 0, slots := 0, locals := 43 })
theorem v_Cc_undo : VI y_Cc_undo c_Cc_undo 1 (some FieldType.int) 0 := ⟨⟨by decide +kernel, by decide +kernel, by decide +kernel⟩, tg2 131 (by decide +kernel) rfl, tg2 132 (by decide +kernel) rfl, tg1 1 (by decide +kernel) rfl, tg2 133 (by decide +kernel) rfl⟩
abbrev M_Cc_undo : Mt := (R_Cc, y_Cc_undo, c_Cc_undo, 1, (some FieldType.int), { frames := 5, cells := 0, slots := 0, locals := 111 })
theorem v_Cc_wasted : VI y_Cc_wasted c_Cc_wasted 3 (some FieldType.double) 1 := ⟨⟨by decide +kernel, by decide +kernel, by decide +kernel⟩, tg2 177 (by decide +kernel) rfl, tg2 178 (by decide +kernel) rfl, tg1 1 (by decide +kernel) rfl, tg2 179 (by decide +kernel) rfl⟩
abbrev M_Cc_wasted : Mt := (R_Cc, y_Cc_wasted, c_Cc_wasted, 3, (some FieldType.double), { frames := 1, cells := 0, slots := 0, locals := 21 })
theorem v_Ch_init : VC y_Ch_init c_Ch_init 1 0 := ⟨⟨by decide +kernel, by decide +kernel, by decide +kernel⟩, tg2 19 (by decide +kernel) rfl, tg1 9 (by decide +kernel) rfl, tg2 20 (by decide +kernel) rfl, rfl⟩
abbrev M_Ch_init : Mt := (R_Ch, y_Ch_init, c_Ch_init, 1, none, { frames := 1, cells := 0, slots := 0, locals := 20 })
theorem v_Hi_init : VC y_Hi_init c_Hi_init 2 0 := ⟨⟨by decide +kernel, by decide +kernel, by decide +kernel⟩, tg1 208 (by decide +kernel) rfl, tg1 7 (by decide +kernel) rfl, tg1 209 (by decide +kernel) rfl, rfl⟩
abbrev M_Hi_init : Mt := (R_Hi, y_Hi_init, c_Hi_init, 2, none, { frames := 4, cells := 193, slots := 63580, locals := 81 })
theorem v_Hi_moveLatestTo : VI y_Hi_moveLatestTo c_Hi_moveLatestTo 3 none 1 := ⟨⟨by decide +kernel, by decide +kernel, by decide +kernel⟩, tg2 135 (by decide +kernel) rfl, tg2 136 (by decide +kernel) rfl, tg1 7 (by decide +kernel) rfl, tg2 137 (by decide +kernel) rfl⟩
abbrev M_Hi_moveLatestTo : Mt := (R_Hi, y_Hi_moveLatestTo, c_Hi_moveLatestTo, 3, none, { frames := 4, cells := 0, slots := 0, locals := 89 })
theorem v_Hi_record : VI y_Hi_record c_Hi_record 3 none 1 := ⟨⟨by decide +kernel, by decide +kernel, by decide +kernel⟩, tg2 70 (by decide +kernel) rfl, tg2 71 (by decide +kernel) rfl, tg1 7 (by decide +kernel) rfl, tg2 72 (by decide +kernel) rfl⟩
abbrev M_Hi_record : Mt := (R_Hi, y_Hi_record, c_Hi_record, 3, none, { frames := 4, cells := 0, slots := 0, locals := 89 })
theorem v_Hi_slotAt : VI y_Hi_slotAt c_Hi_slotAt 3 (some (FieldType.object "CarpetCounter$Book")) 1 := ⟨⟨by decide +kernel, by decide +kernel, by decide +kernel⟩, tg2 75 (by decide +kernel) rfl, tg_p (k := 3) 0 (by decide +kernel), tg1 7 (by decide +kernel) rfl, tg2 76 (by decide +kernel) rfl⟩
abbrev M_Hi_slotAt : Mt := (R_Hi, y_Hi_slotAt, c_Hi_slotAt, 3, (some (FieldType.object "CarpetCounter$Book")), { frames := 1, cells := 0, slots := 0, locals := 30 })
theorem v_La_act : VS y_La_act c_La_act 6 (some FieldType.int) 3 := ⟨⟨by decide +kernel, by decide +kernel, by decide +kernel⟩, tg3 30 (by decide +kernel) rfl, tg1 0 (by decide +kernel) rfl, tg3 31 (by decide +kernel) rfl⟩
abbrev M_La_act : Mt := (R_La, y_La_act, c_La_act, 6, (some FieldType.int), { frames := 8, cells := 0, slots := 0, locals := 168 })
theorem v_La_again : VS y_La_again c_La_again 13 (some FieldType.boolean) 4 := ⟨⟨by decide +kernel, by decide +kernel, by decide +kernel⟩, tg3 225 (by decide +kernel) rfl, tg1 0 (by decide +kernel) rfl, tg3 226 (by decide +kernel) rfl⟩
abbrev M_La_again : Mt := (R_La, y_La_again, c_La_again, 13, (some FieldType.boolean), { frames := 6, cells := 0, slots := 0, locals := 147 })
theorem v_La_areas : VS y_La_areas c_La_areas 9 (some FieldType.boolean) 1 := ⟨⟨by decide +kernel, by decide +kernel, by decide +kernel⟩, tg3 7 (by decide +kernel) rfl, tg1 0 (by decide +kernel) rfl, tg3 8 (by decide +kernel) rfl⟩
abbrev M_La_areas : Mt := (R_La, y_La_areas, c_La_areas, 9, (some FieldType.boolean), { frames := 4, cells := 0, slots := 0, locals := 90 })
theorem v_La_cell : VS y_La_cell c_La_cell 2 (some FieldType.int) 2 := ⟨⟨by decide +kernel, by decide +kernel, by decide +kernel⟩, tg2 186 (by decide +kernel) rfl, tg1 0 (by decide +kernel) rfl, tg2 187 (by decide +kernel) rfl⟩
abbrev M_La_cell : Mt := (R_La, y_La_cell, c_La_cell, 2, (some FieldType.int), { frames := 0, cells := 0, slots := 0, locals := 0 })
theorem v_La_low : VS y_La_low c_La_low 2 (some FieldType.int) 2 := ⟨⟨by decide +kernel, by decide +kernel, by decide +kernel⟩, tg2 190 (by decide +kernel) rfl, tg1 0 (by decide +kernel) rfl, tg2 191 (by decide +kernel) rfl⟩
abbrev M_La_low : Mt := (R_La, y_La_low, c_La_low, 2, (some FieldType.int), { frames := 0, cells := 0, slots := 0, locals := 0 })
theorem v_La_number : VS y_La_number c_La_number 2 none 2 := ⟨⟨by decide +kernel, by decide +kernel, by decide +kernel⟩, tg3 52 (by decide +kernel) rfl, tg1 0 (by decide +kernel) rfl, tg3 53 (by decide +kernel) rfl⟩
abbrev M_La_number : Mt := (R_La, y_La_number, c_La_number, 2, none, { frames := 3, cells := 0, slots := 0, locals := 64 })
theorem v_La_read : VS y_La_read c_La_read 2 (some FieldType.int) 2 := ⟨⟨by decide +kernel, by decide +kernel, by decide +kernel⟩, tg3 45 (by decide +kernel) rfl, tg1 0 (by decide +kernel) rfl, tg3 46 (by decide +kernel) rfl⟩
abbrev M_La_read : Mt := (R_La, y_La_read, c_La_read, 2, (some FieldType.int), { frames := 7, cells := 0, slots := 0, locals := 147 })
theorem v_La_rooms : VS y_La_rooms c_La_rooms 9 (some FieldType.boolean) 1 := ⟨⟨by decide +kernel, by decide +kernel, by decide +kernel⟩, tg3 10 (by decide +kernel) rfl, tg1 0 (by decide +kernel) rfl, tg3 11 (by decide +kernel) rfl⟩
abbrev M_La_rooms : Mt := (R_La, y_La_rooms, c_La_rooms, 9, (some FieldType.boolean), { frames := 6, cells := 0, slots := 0, locals := 138 })
theorem v_La_same : VS y_La_same c_La_same 3 (some FieldType.boolean) 2 := ⟨⟨by decide +kernel, by decide +kernel, by decide +kernel⟩, tg3 4 (by decide +kernel) rfl, tg1 0 (by decide +kernel) rfl, tg3 5 (by decide +kernel) rfl⟩
abbrev M_La_same : Mt := (R_La, y_La_same, c_La_same, 3, (some FieldType.boolean), { frames := 0, cells := 0, slots := 0, locals := 0 })
theorem v_La_tell : VS y_La_tell c_La_tell 3 (some (FieldType.array FieldType.int)) 1 := ⟨⟨by decide +kernel, by decide +kernel, by decide +kernel⟩, tg2 194 (by decide +kernel) rfl, tg1 0 (by decide +kernel) rfl, tg2 195 (by decide +kernel) rfl⟩
abbrev M_La_tell : Mt := (R_La, y_La_tell, c_La_tell, 3, (some (FieldType.array FieldType.int)), { frames := 6, cells := 1, slots := 64, locals := 138 })
theorem v_Of_append : VI y_Of_append c_Of_append 4 (some FieldType.boolean) 3 := ⟨⟨by decide +kernel, by decide +kernel, by decide +kernel⟩, tg3 177 (by decide +kernel) rfl, tg3 178 (by decide +kernel) rfl, tg1 5 (by decide +kernel) rfl, tg3 179 (by decide +kernel) rfl⟩
abbrev M_Of_append : Mt := (R_Of, y_Of_append, c_Of_append, 4, (some FieldType.boolean), { frames := 1, cells := 0, slots := 0, locals := 22 })
theorem v_Of_area : VI y_Of_area c_Of_area 2 (some FieldType.int) 1 := ⟨⟨by decide +kernel, by decide +kernel, by decide +kernel⟩, tg2 115 (by decide +kernel) rfl, tg2 116 (by decide +kernel) rfl, tg1 5 (by decide +kernel) rfl, tg2 117 (by decide +kernel) rfl⟩
abbrev M_Of_area : Mt := (R_Of, y_Of_area, c_Of_area, 2, (some FieldType.int), { frames := 1, cells := 0, slots := 0, locals := 21 })
theorem v_Of_areaOf : VI y_Of_areaOf c_Of_areaOf 4 (some FieldType.int) 1 := ⟨⟨by decide +kernel, by decide +kernel, by decide +kernel⟩, tg2 205 (by decide +kernel) rfl, tg2 206 (by decide +kernel) rfl, tg1 5 (by decide +kernel) rfl, tg2 207 (by decide +kernel) rfl⟩
abbrev M_Of_areaOf : Mt := (R_Of, y_Of_areaOf, c_Of_areaOf, 4, (some FieldType.int), { frames := 2, cells := 0, slots := 0, locals := 42 })
theorem v_Of_copyFrom : VI y_Of_copyFrom c_Of_copyFrom 2 none 1 := ⟨⟨by decide +kernel, by decide +kernel, by decide +kernel⟩, tg2 100 (by decide +kernel) rfl, tg2 101 (by decide +kernel) rfl, tg1 5 (by decide +kernel) rfl, tg2 102 (by decide +kernel) rfl⟩
abbrev M_Of_copyFrom : Mt := (R_Of, y_Of_copyFrom, c_Of_copyFrom, 2, none, { frames := 2, cells := 0, slots := 0, locals := 47 })
theorem v_Of_holds : VI y_Of_holds c_Of_holds 4 (some FieldType.boolean) 3 := ⟨⟨by decide +kernel, by decide +kernel, by decide +kernel⟩, tg3 154 (by decide +kernel) rfl, tg3 155 (by decide +kernel) rfl, tg1 5 (by decide +kernel) rfl, tg3 156 (by decide +kernel) rfl⟩
abbrev M_Of_holds : Mt := (R_Of, y_Of_holds, c_Of_holds, 4, (some FieldType.boolean), { frames := 1, cells := 0, slots := 0, locals := 21 })
theorem v_Of_init : VC y_Of_init c_Of_init 1 0 := ⟨⟨by decide +kernel, by decide +kernel, by decide +kernel⟩, tg1 91 (by decide +kernel) rfl, tg1 5 (by decide +kernel) rfl, tg1 92 (by decide +kernel) rfl, rfl⟩
abbrev M_Of_init : Mt := (R_Of, y_Of_init, c_Of_init, 1, none, { frames := 2, cells := 8, slots := 2884, locals := 41 })
theorem v_Of_isSmall : VI y_Of_isSmall c_Of_isSmall 4 (some FieldType.boolean) 3 := ⟨⟨by decide +kernel, by decide +kernel, by decide +kernel⟩, tg3 208 (by decide +kernel) rfl, tg3 209 (by decide +kernel) rfl, tg1 5 (by decide +kernel) rfl, tg3 210 (by decide +kernel) rfl⟩
abbrev M_Of_isSmall : Mt := (R_Of, y_Of_isSmall, c_Of_isSmall, 4, (some FieldType.boolean), { frames := 2, cells := 0, slots := 0, locals := 42 })
theorem v_Of_keptOf : VI y_Of_keptOf c_Of_keptOf 4 (some FieldType.int) 1 := ⟨⟨by decide +kernel, by decide +kernel, by decide +kernel⟩, tg2 201 (by decide +kernel) rfl, tg2 202 (by decide +kernel) rfl, tg1 5 (by decide +kernel) rfl, tg2 203 (by decide +kernel) rfl⟩
abbrev M_Of_keptOf : Mt := (R_Of, y_Of_keptOf, c_Of_keptOf, 4, (some FieldType.int), { frames := 1, cells := 0, slots := 0, locals := 21 })
theorem v_Of_placeFor : VI y_Of_placeFor c_Of_placeFor 6 (some FieldType.int) 3 := ⟨⟨by decide +kernel, by decide +kernel, by decide +kernel⟩, tg3 150 (by decide +kernel) rfl, tg3 151 (by decide +kernel) rfl, tg1 5 (by decide +kernel) rfl, tg3 152 (by decide +kernel) rfl⟩
abbrev M_Of_placeFor : Mt := (R_Of, y_Of_placeFor, c_Of_placeFor, 6, (some FieldType.int), { frames := 2, cells := 0, slots := 0, locals := 44 })
theorem v_Of_placeOf : VI y_Of_placeOf c_Of_placeOf 3 (some FieldType.int) 1 := ⟨⟨by decide +kernel, by decide +kernel, by decide +kernel⟩, tg2 62 (by decide +kernel) rfl, tg2 63 (by decide +kernel) rfl, tg1 5 (by decide +kernel) rfl, tg2 64 (by decide +kernel) rfl⟩
abbrev M_Of_placeOf : Mt := (R_Of, y_Of_placeOf, c_Of_placeOf, 3, (some FieldType.int), { frames := 1, cells := 0, slots := 0, locals := 21 })
theorem v_Of_removeAt : VI y_Of_removeAt c_Of_removeAt 2 none 1 := ⟨⟨by decide +kernel, by decide +kernel, by decide +kernel⟩, tg2 123 (by decide +kernel) rfl, tg2 124 (by decide +kernel) rfl, tg1 5 (by decide +kernel) rfl, tg2 125 (by decide +kernel) rfl⟩
abbrev M_Of_removeAt : Mt := (R_Of, y_Of_removeAt, c_Of_removeAt, 2, none, { frames := 1, cells := 0, slots := 0, locals := 22 })
theorem v_Of_smallOnes : VI y_Of_smallOnes c_Of_smallOnes 5 (some FieldType.int) 2 := ⟨⟨by decide +kernel, by decide +kernel, by decide +kernel⟩, tg3 204 (by decide +kernel) rfl, tg3 205 (by decide +kernel) rfl, tg1 5 (by decide +kernel) rfl, tg3 206 (by decide +kernel) rfl⟩
abbrev M_Of_smallOnes : Mt := (R_Of, y_Of_smallOnes, c_Of_smallOnes, 5, (some FieldType.int), { frames := 3, cells := 0, slots := 0, locals := 65 })
theorem v_Rm_addRectangle : VI y_Rm_addRectangle c_Rm_addRectangle 4 none 2 := ⟨⟨by decide +kernel, by decide +kernel, by decide +kernel⟩, tg3 98 (by decide +kernel) rfl, tg3 99 (by decide +kernel) rfl, tg1 6 (by decide +kernel) rfl, tg3 100 (by decide +kernel) rfl⟩
abbrev M_Rm_addRectangle : Mt := (R_Rm, y_Rm_addRectangle, c_Rm_addRectangle, 4, none, { frames := 1, cells := 0, slots := 0, locals := 22 })
theorem v_Rm_appendAll : VI y_Rm_appendAll c_Rm_appendAll 7 none 1 := ⟨⟨by decide +kernel, by decide +kernel, by decide +kernel⟩, tg3 115 (by decide +kernel) rfl, tg3 116 (by decide +kernel) rfl, tg1 6 (by decide +kernel) rfl, tg3 117 (by decide +kernel) rfl⟩
abbrev M_Rm_appendAll : Mt := (R_Rm, y_Rm_appendAll, c_Rm_appendAll, 7, none, { frames := 2, cells := 0, slots := 0, locals := 45 })
theorem v_Rm_area : VI y_Rm_area c_Rm_area 6 (some FieldType.int) 1 := ⟨⟨by decide +kernel, by decide +kernel, by decide +kernel⟩, tg2 165 (by decide +kernel) rfl, tg2 166 (by decide +kernel) rfl, tg1 6 (by decide +kernel) rfl, tg2 167 (by decide +kernel) rfl⟩
abbrev M_Rm_area : Mt := (R_Rm, y_Rm_area, c_Rm_area, 6, (some FieldType.int), { frames := 1, cells := 0, slots := 0, locals := 22 })
theorem v_Rm_begin : VI y_Rm_begin c_Rm_begin 1 none 0 := ⟨⟨by decide +kernel, by decide +kernel, by decide +kernel⟩, tg3 76 (by decide +kernel) rfl, tg3 77 (by decide +kernel) rfl, tg1 6 (by decide +kernel) rfl, tg3 78 (by decide +kernel) rfl⟩
abbrev M_Rm_begin : Mt := (R_Rm, y_Rm_begin, c_Rm_begin, 1, none, { frames := 1, cells := 0, slots := 0, locals := 22 })
theorem v_Rm_cell : VI y_Rm_cell c_Rm_cell 3 (some FieldType.int) 2 := ⟨⟨by decide +kernel, by decide +kernel, by decide +kernel⟩, tg2 169 (by decide +kernel) rfl, tg2 170 (by decide +kernel) rfl, tg1 6 (by decide +kernel) rfl, tg2 171 (by decide +kernel) rfl⟩
abbrev M_Rm_cell : Mt := (R_Rm, y_Rm_cell, c_Rm_cell, 3, (some FieldType.int), { frames := 0, cells := 0, slots := 0, locals := 0 })
theorem v_Rm_copyFrom : VI y_Rm_copyFrom c_Rm_copyFrom 2 none 1 := ⟨⟨by decide +kernel, by decide +kernel, by decide +kernel⟩, tg2 105 (by decide +kernel) rfl, tg2 106 (by decide +kernel) rfl, tg1 6 (by decide +kernel) rfl, tg2 107 (by decide +kernel) rfl⟩
abbrev M_Rm_copyFrom : Mt := (R_Rm, y_Rm_copyFrom, c_Rm_copyFrom, 2, none, { frames := 2, cells := 0, slots := 0, locals := 47 })
theorem v_Rm_covered : VI y_Rm_covered c_Rm_covered 3 (some FieldType.int) 0 := ⟨⟨by decide +kernel, by decide +kernel, by decide +kernel⟩, tg2 148 (by decide +kernel) rfl, tg2 149 (by decide +kernel) rfl, tg1 6 (by decide +kernel) rfl, tg2 150 (by decide +kernel) rfl⟩
abbrev M_Rm_covered : Mt := (R_Rm, y_Rm_covered, c_Rm_covered, 3, (some FieldType.int), { frames := 2, cells := 0, slots := 0, locals := 42 })
theorem v_Rm_coveredArea : VI y_Rm_coveredArea c_Rm_coveredArea 3 (some FieldType.int) 0 := ⟨⟨by decide +kernel, by decide +kernel, by decide +kernel⟩, tg2 161 (by decide +kernel) rfl, tg2 162 (by decide +kernel) rfl, tg1 6 (by decide +kernel) rfl, tg2 163 (by decide +kernel) rfl⟩
abbrev M_Rm_coveredArea : Mt := (R_Rm, y_Rm_coveredArea, c_Rm_coveredArea, 3, (some FieldType.int), { frames := 2, cells := 0, slots := 0, locals := 47 })
theorem v_Rm_finish : VI y_Rm_finish c_Rm_finish 2 none 1 := ⟨⟨by decide +kernel, by decide +kernel, by decide +kernel⟩, tg3 107 (by decide +kernel) rfl, tg3 108 (by decide +kernel) rfl, tg1 6 (by decide +kernel) rfl, tg3 109 (by decide +kernel) rfl⟩
abbrev M_Rm_finish : Mt := (R_Rm, y_Rm_finish, c_Rm_finish, 2, none, { frames := 1, cells := 0, slots := 0, locals := 22 })
theorem v_Rm_has : VI y_Rm_has c_Rm_has 2 (some FieldType.boolean) 1 := ⟨⟨by decide +kernel, by decide +kernel, by decide +kernel⟩, tg2 214 (by decide +kernel) rfl, tg2 215 (by decide +kernel) rfl, tg1 6 (by decide +kernel) rfl, tg2 216 (by decide +kernel) rfl⟩
abbrev M_Rm_has : Mt := (R_Rm, y_Rm_has, c_Rm_has, 2, (some FieldType.boolean), { frames := 0, cells := 0, slots := 0, locals := 0 })
theorem v_Rm_init : VC y_Rm_init c_Rm_init 1 0 := ⟨⟨by decide +kernel, by decide +kernel, by decide +kernel⟩, tg1 128 (by decide +kernel) rfl, tg1 6 (by decide +kernel) rfl, tg1 129 (by decide +kernel) rfl, rfl⟩
abbrev M_Rm_init : Mt := (R_Rm, y_Rm_init, c_Rm_init, 1, none, { frames := 2, cells := 18, slots := 6489, locals := 41 })
theorem v_Rm_isAcross : VI y_Rm_isAcross c_Rm_isAcross 4 (some FieldType.boolean) 2 := ⟨⟨by decide +kernel, by decide +kernel, by decide +kernel⟩, tg3 135 (by decide +kernel) rfl, tg3 136 (by decide +kernel) rfl, tg1 6 (by decide +kernel) rfl, tg3 137 (by decide +kernel) rfl⟩
abbrev M_Rm_isAcross : Mt := (R_Rm, y_Rm_isAcross, c_Rm_isAcross, 4, (some FieldType.boolean), { frames := 1, cells := 0, slots := 0, locals := 21 })
theorem v_Rm_isCovered : VI y_Rm_isCovered c_Rm_isCovered 2 (some FieldType.boolean) 1 := ⟨⟨by decide +kernel, by decide +kernel, by decide +kernel⟩, tg2 152 (by decide +kernel) rfl, tg2 153 (by decide +kernel) rfl, tg1 6 (by decide +kernel) rfl, tg2 154 (by decide +kernel) rfl⟩
abbrev M_Rm_isCovered : Mt := (R_Rm, y_Rm_isCovered, c_Rm_isCovered, 2, (some FieldType.boolean), { frames := 1, cells := 0, slots := 0, locals := 21 })
theorem v_Rm_putBare : VI y_Rm_putBare c_Rm_putBare 2 none 1 := ⟨⟨by decide +kernel, by decide +kernel, by decide +kernel⟩, tg3 196 (by decide +kernel) rfl, tg3 197 (by decide +kernel) rfl, tg1 6 (by decide +kernel) rfl, tg3 198 (by decide +kernel) rfl⟩
abbrev M_Rm_putBare : Mt := (R_Rm, y_Rm_putBare, c_Rm_putBare, 2, none, { frames := 1, cells := 0, slots := 0, locals := 22 })
theorem v_Rm_putCovering : VI y_Rm_putCovering c_Rm_putCovering 5 none 4 := ⟨⟨by decide +kernel, by decide +kernel, by decide +kernel⟩, tg3 139 (by decide +kernel) rfl, tg3 140 (by decide +kernel) rfl, tg1 6 (by decide +kernel) rfl, tg3 141 (by decide +kernel) rfl⟩
abbrev M_Rm_putCovering : Mt := (R_Rm, y_Rm_putCovering, c_Rm_putCovering, 5, none, { frames := 1, cells := 0, slots := 0, locals := 22 })
theorem v_Rm_putSource : VI y_Rm_putSource c_Rm_putSource 4 none 3 := ⟨⟨by decide +kernel, by decide +kernel, by decide +kernel⟩, tg3 158 (by decide +kernel) rfl, tg3 159 (by decide +kernel) rfl, tg1 6 (by decide +kernel) rfl, tg3 160 (by decide +kernel) rfl⟩
abbrev M_Rm_putSource : Mt := (R_Rm, y_Rm_putSource, c_Rm_putSource, 4, none, { frames := 1, cells := 0, slots := 0, locals := 22 })
theorem v_Rm_rectangleLength : VI y_Rm_rectangleLength c_Rm_rectangleLength 5 (some FieldType.int) 3 := ⟨⟨by decide +kernel, by decide +kernel, by decide +kernel⟩, tg3 0 (by decide +kernel) rfl, tg3 1 (by decide +kernel) rfl, tg1 6 (by decide +kernel) rfl, tg3 2 (by decide +kernel) rfl⟩
abbrev M_Rm_rectangleLength : Mt := (R_Rm, y_Rm_rectangleLength, c_Rm_rectangleLength, 5, (some FieldType.int), { frames := 1, cells := 0, slots := 0, locals := 22 })
theorem v_Rm_rectangleWidth : VI y_Rm_rectangleWidth c_Rm_rectangleWidth 5 (some FieldType.int) 3 := ⟨⟨by decide +kernel, by decide +kernel, by decide +kernel⟩, tg2 232 (by decide +kernel) rfl, tg2 233 (by decide +kernel) rfl, tg1 6 (by decide +kernel) rfl, tg2 234 (by decide +kernel) rfl⟩
abbrev M_Rm_rectangleWidth : Mt := (R_Rm, y_Rm_rectangleWidth, c_Rm_rectangleWidth, 5, (some FieldType.int), { frames := 1, cells := 0, slots := 0, locals := 22 })
theorem v_Rm_seams : VI y_Rm_seams c_Rm_seams 5 (some FieldType.int) 1 := ⟨⟨by decide +kernel, by decide +kernel, by decide +kernel⟩, tg2 236 (by decide +kernel) rfl, tg2 237 (by decide +kernel) rfl, tg1 6 (by decide +kernel) rfl, tg2 238 (by decide +kernel) rfl⟩
abbrev M_Rm_seams : Mt := (R_Rm, y_Rm_seams, c_Rm_seams, 5, (some FieldType.int), { frames := 3, cells := 0, slots := 0, locals := 69 })
theorem v_Rm_source : VI y_Rm_source c_Rm_source 3 (some FieldType.int) 2 := ⟨⟨by decide +kernel, by decide +kernel, by decide +kernel⟩, tg3 26 (by decide +kernel) rfl, tg3 27 (by decide +kernel) rfl, tg1 6 (by decide +kernel) rfl, tg3 28 (by decide +kernel) rfl⟩
abbrev M_Rm_source : Mt := (R_Rm, y_Rm_source, c_Rm_source, 3, (some FieldType.int), { frames := 1, cells := 0, slots := 0, locals := 21 })
theorem v_Rm_stripLength : VI y_Rm_stripLength c_Rm_stripLength 7 (some FieldType.int) 2 := ⟨⟨by decide +kernel, by decide +kernel, by decide +kernel⟩, tg3 22 (by decide +kernel) rfl, tg3 23 (by decide +kernel) rfl, tg1 6 (by decide +kernel) rfl, tg3 24 (by decide +kernel) rfl⟩
abbrev M_Rm_stripLength : Mt := (R_Rm, y_Rm_stripLength, c_Rm_stripLength, 7, (some FieldType.int), { frames := 3, cells := 0, slots := 0, locals := 69 })
theorem v_Rm_stripWidth : VI y_Rm_stripWidth c_Rm_stripWidth 8 (some FieldType.int) 2 := ⟨⟨by decide +kernel, by decide +kernel, by decide +kernel⟩, tg3 17 (by decide +kernel) rfl, tg3 18 (by decide +kernel) rfl, tg1 6 (by decide +kernel) rfl, tg3 19 (by decide +kernel) rfl⟩
abbrev M_Rm_stripWidth : Mt := (R_Rm, y_Rm_stripWidth, c_Rm_stripWidth, 8, (some FieldType.int), { frames := 3, cells := 0, slots := 0, locals := 69 })
theorem v_Rm_strips : VI y_Rm_strips c_Rm_strips 5 (some FieldType.int) 1 := ⟨⟨by decide +kernel, by decide +kernel, by decide +kernel⟩, tg2 224 (by decide +kernel) rfl, tg2 225 (by decide +kernel) rfl, tg1 6 (by decide +kernel) rfl, tg2 226 (by decide +kernel) rfl⟩
abbrev M_Rm_strips : Mt := (R_Rm, y_Rm_strips, c_Rm_strips, 5, (some FieldType.int), { frames := 3, cells := 0, slots := 0, locals := 69 })
theorem v_Rm_stripsIn : VI y_Rm_stripsIn c_Rm_stripsIn 4 (some FieldType.int) 2 := ⟨⟨by decide +kernel, by decide +kernel, by decide +kernel⟩, tg2 229 (by decide +kernel) rfl, tg_p (k := 10) 3 (by decide +kernel), tg1 6 (by decide +kernel) rfl, tg2 230 (by decide +kernel) rfl⟩
abbrev M_Rm_stripsIn : Mt := (R_Rm, y_Rm_stripsIn, c_Rm_stripsIn, 4, (some FieldType.int), { frames := 2, cells := 0, slots := 0, locals := 46 })
theorem v_Ro_append : VI y_Ro_append c_Ro_append 6 (some FieldType.int) 4 := ⟨⟨by decide +kernel, by decide +kernel, by decide +kernel⟩, tg3 40 (by decide +kernel) rfl, tg3 41 (by decide +kernel) rfl, tg1 4 (by decide +kernel) rfl, tg3 42 (by decide +kernel) rfl⟩
abbrev M_Ro_append : Mt := (R_Ro, y_Ro_append, c_Ro_append, 6, (some FieldType.int), { frames := 1, cells := 0, slots := 0, locals := 22 })
theorem v_Ro_copyFrom : VI y_Ro_copyFrom c_Ro_copyFrom 2 none 1 := ⟨⟨by decide +kernel, by decide +kernel, by decide +kernel⟩, tg2 95 (by decide +kernel) rfl, tg2 96 (by decide +kernel) rfl, tg1 4 (by decide +kernel) rfl, tg2 97 (by decide +kernel) rfl⟩
abbrev M_Ro_copyFrom : Mt := (R_Ro, y_Ro_copyFrom, c_Ro_copyFrom, 2, none, { frames := 2, cells := 0, slots := 0, locals := 47 })
theorem v_Ro_has : VI y_Ro_has c_Ro_has 2 (some FieldType.boolean) 1 := ⟨⟨by decide +kernel, by decide +kernel, by decide +kernel⟩, tg2 181 (by decide +kernel) rfl, tg2 182 (by decide +kernel) rfl, tg1 4 (by decide +kernel) rfl, tg2 183 (by decide +kernel) rfl⟩
abbrev M_Ro_has : Mt := (R_Ro, y_Ro_has, c_Ro_has, 2, (some FieldType.boolean), { frames := 0, cells := 0, slots := 0, locals := 0 })
theorem v_Ro_init : VC y_Ro_init c_Ro_init 1 0 := ⟨⟨by decide +kernel, by decide +kernel, by decide +kernel⟩, tg1 40 (by decide +kernel) rfl, tg1 4 (by decide +kernel) rfl, tg1 41 (by decide +kernel) rfl, rfl⟩
abbrev M_Ro_init : Mt := (R_Ro, y_Ro_init, c_Ro_init, 1, none, { frames := 2, cells := 16, slots := 5768, locals := 41 })
theorem v_Rw_add : VI y_Rw_add c_Rw_add 3 none 2 := ⟨⟨by decide +kernel, by decide +kernel, by decide +kernel⟩, tg2 119 (by decide +kernel) rfl, tg2 120 (by decide +kernel) rfl, tg1 3 (by decide +kernel) rfl, tg2 121 (by decide +kernel) rfl⟩
abbrev M_Rw_add : Mt := (R_Rw, y_Rw_add, c_Rw_add, 3, none, { frames := 0, cells := 0, slots := 0, locals := 0 })
theorem v_Rw_at : VI y_Rw_at c_Rw_at 2 (some FieldType.int) 1 := ⟨⟨by decide +kernel, by decide +kernel, by decide +kernel⟩, tg2 66 (by decide +kernel) rfl, tg2 67 (by decide +kernel) rfl, tg1 3 (by decide +kernel) rfl, tg2 68 (by decide +kernel) rfl⟩
abbrev M_Rw_at : Mt := (R_Rw, y_Rw_at, c_Rw_at, 2, (some FieldType.int), { frames := 0, cells := 0, slots := 0, locals := 0 })
theorem v_Rw_copyFrom : VI y_Rw_copyFrom c_Rw_copyFrom 2 none 1 := ⟨⟨by decide +kernel, by decide +kernel, by decide +kernel⟩, tg2 85 (by decide +kernel) rfl, tg2 86 (by decide +kernel) rfl, tg1 3 (by decide +kernel) rfl, tg2 87 (by decide +kernel) rfl⟩
abbrev M_Rw_copyFrom : Mt := (R_Rw, y_Rw_copyFrom, c_Rw_copyFrom, 2, none, { frames := 1, cells := 0, slots := 0, locals := 26 })
theorem v_Rw_init : VC y_Rw_init c_Rw_init 2 1 := ⟨⟨by decide +kernel, by decide +kernel, by decide +kernel⟩, tg1 29 (by decide +kernel) rfl, tg1 3 (by decide +kernel) rfl, tg1 30 (by decide +kernel) rfl, rfl⟩
abbrev M_Rw_init : Mt := (R_Rw, y_Rw_init, c_Rw_init, 2, none, { frames := 1, cells := 1, slots := 720, locals := 20 })
theorem v_Rw_put : VI y_Rw_put c_Rw_put 3 none 2 := ⟨⟨by decide +kernel, by decide +kernel, by decide +kernel⟩, tg1 175 (by decide +kernel) rfl, tg1 176 (by decide +kernel) rfl, tg1 3 (by decide +kernel) rfl, tg1 177 (by decide +kernel) rfl⟩
abbrev M_Rw_put : Mt := (R_Rw, y_Rw_put, c_Rw_put, 3, none, { frames := 0, cells := 0, slots := 0, locals := 0 })
theorem v_Rw_removeAt : VI y_Rw_removeAt c_Rw_removeAt 3 none 1 := ⟨⟨by decide +kernel, by decide +kernel, by decide +kernel⟩, tg2 127 (by decide +kernel) rfl, tg2 128 (by decide +kernel) rfl, tg1 3 (by decide +kernel) rfl, tg2 129 (by decide +kernel) rfl⟩
abbrev M_Rw_removeAt : Mt := (R_Rw, y_Rw_removeAt, c_Rw_removeAt, 3, none, { frames := 0, cells := 0, slots := 0, locals := 0 })
theorem v_Rw_sum : VI y_Rw_sum c_Rw_sum 3 (some FieldType.int) 0 := ⟨⟨by decide +kernel, by decide +kernel, by decide +kernel⟩, tg2 157 (by decide +kernel) rfl, tg2 158 (by decide +kernel) rfl, tg1 3 (by decide +kernel) rfl, tg2 159 (by decide +kernel) rfl⟩
abbrev M_Rw_sum : Mt := (R_Rw, y_Rw_sum, c_Rw_sum, 3, (some FieldType.int), { frames := 0, cells := 0, slots := 0, locals := 0 })
theorem v_Te_append : VI y_Te_append c_Te_append 2 (some FieldType.boolean) 1 := ⟨⟨by decide +kernel, by decide +kernel, by decide +kernel⟩, tg3 59 (by decide +kernel) rfl, tg3 60 (by decide +kernel) rfl, tg1 8 (by decide +kernel) rfl, tg3 61 (by decide +kernel) rfl⟩
abbrev M_Te_append : Mt := (R_Te, y_Te_append, c_Te_append, 2, (some FieldType.boolean), { frames := 1, cells := 0, slots := 0, locals := 22 })
theorem v_Te_beginRoom : VI y_Te_beginRoom c_Te_beginRoom 1 none 0 := ⟨⟨by decide +kernel, by decide +kernel, by decide +kernel⟩, tg3 73 (by decide +kernel) rfl, tg_p (k := 6) 4 (by decide +kernel), tg1 8 (by decide +kernel) rfl, tg3 74 (by decide +kernel) rfl⟩
abbrev M_Te_beginRoom : Mt := (R_Te, y_Te_beginRoom, c_Te_beginRoom, 1, none, { frames := 2, cells := 0, slots := 0, locals := 42 })
theorem v_Te_init : VC y_Te_init c_Te_init 1 0 := ⟨⟨by decide +kernel, by decide +kernel, by decide +kernel⟩, tg1 228 (by decide +kernel) rfl, tg1 8 (by decide +kernel) rfl, tg1 229 (by decide +kernel) rfl, rfl⟩
abbrev M_Te_init : Mt := (R_Te, y_Te_init, c_Te_init, 1, none, { frames := 3, cells := 21, slots := 7220, locals := 61 })
theorem v_Te_read : VI y_Te_read c_Te_read 2 (some FieldType.int) 0 := ⟨⟨by decide +kernel, by decide +kernel, by decide +kernel⟩, tg3 68 (by decide +kernel) rfl, tg3 69 (by decide +kernel) rfl, tg1 8 (by decide +kernel) rfl, tg3 70 (by decide +kernel) rfl⟩
abbrev M_Te_read : Mt := (R_Te, y_Te_read, c_Te_read, 2, (some FieldType.int), { frames := 5, cells := 0, slots := 0, locals := 104 })
theorem v_Te_takes : VI y_Te_takes c_Te_takes 2 (some FieldType.boolean) 1 := ⟨⟨by decide +kernel, by decide +kernel, by decide +kernel⟩, tg3 83 (by decide +kernel) rfl, tg_p (k := 6) 5 (by decide +kernel), tg1 8 (by decide +kernel) rfl, tg3 84 (by decide +kernel) rfl⟩
abbrev M_Te_takes : Mt := (R_Te, y_Te_takes, c_Te_takes, 2, (some FieldType.boolean), { frames := 4, cells := 0, slots := 0, locals := 83 })
theorem v_Te_takesBehindSizes : VI y_Te_takesBehindSizes c_Te_takesBehindSizes 2 (some FieldType.boolean) 1 := ⟨⟨by decide +kernel, by decide +kernel, by decide +kernel⟩, tg3 95 (by decide +kernel) rfl, tg_p (k := 6) 8 (by decide +kernel), tg1 8 (by decide +kernel) rfl, tg3 96 (by decide +kernel) rfl⟩
abbrev M_Te_takesBehindSizes : Mt := (R_Te, y_Te_takesBehindSizes, c_Te_takesBehindSizes, 2, (some FieldType.boolean), { frames := 2, cells := 0, slots := 0, locals := 45 })
theorem v_Te_takesBetweenRooms : VI y_Te_takesBetweenRooms c_Te_takesBetweenRooms 2 (some FieldType.boolean) 1 := ⟨⟨by decide +kernel, by decide +kernel, by decide +kernel⟩, tg3 112 (by decide +kernel) rfl, tg_p (k := 6) 10 (by decide +kernel), tg1 8 (by decide +kernel) rfl, tg3 113 (by decide +kernel) rfl⟩
abbrev M_Te_takesBetweenRooms : Mt := (R_Te, y_Te_takesBetweenRooms, c_Te_takesBetweenRooms, 2, (some FieldType.boolean), { frames := 3, cells := 0, slots := 0, locals := 62 })
theorem v_Te_takesBetweenSizes : VI y_Te_takesBetweenSizes c_Te_takesBetweenSizes 2 (some FieldType.boolean) 1 := ⟨⟨by decide +kernel, by decide +kernel, by decide +kernel⟩, tg3 91 (by decide +kernel) rfl, tg_p (k := 6) 7 (by decide +kernel), tg1 8 (by decide +kernel) rfl, tg3 92 (by decide +kernel) rfl⟩
abbrev M_Te_takesBetweenSizes : Mt := (R_Te, y_Te_takesBetweenSizes, c_Te_takesBetweenSizes, 2, (some FieldType.boolean), { frames := 0, cells := 0, slots := 0, locals := 0 })
theorem v_Te_takesDigit : VI y_Te_takesDigit c_Te_takesDigit 3 (some FieldType.boolean) 1 := ⟨⟨by decide +kernel, by decide +kernel, by decide +kernel⟩, tg3 87 (by decide +kernel) rfl, tg_p (k := 6) 6 (by decide +kernel), tg1 8 (by decide +kernel) rfl, tg3 88 (by decide +kernel) rfl⟩
abbrev M_Te_takesDigit : Mt := (R_Te, y_Te_takesDigit, c_Te_takesDigit, 3, (some FieldType.boolean), { frames := 0, cells := 0, slots := 0, locals := 0 })
theorem v_Te_takesLight : VI y_Te_takesLight c_Te_takesLight 2 (some FieldType.boolean) 1 := ⟨⟨by decide +kernel, by decide +kernel, by decide +kernel⟩, tg3 104 (by decide +kernel) rfl, tg_p (k := 6) 9 (by decide +kernel), tg1 8 (by decide +kernel) rfl, tg3 105 (by decide +kernel) rfl⟩
abbrev M_Te_takesLight : Mt := (R_Te, y_Te_takesLight, c_Te_takesLight, 2, (some FieldType.boolean), { frames := 2, cells := 0, slots := 0, locals := 43 })
abbrev M_La_law : Mt := (R_La, y_La_law, c_La_law, 10, ret, room_1)
theorem j_max1 : Cond.static Lib.Math.max.name ∈ tbG := tg3 170 (by decide +kernel) rfl
theorem j_max2 : Cond.code Lib.Math.max.name Lib.Math.max.code 2 (some .int) ∈ tbG := tg3 171 (by decide +kernel) rfl
theorem j_min1 : Cond.static Lib.Math.min.name ∈ tbG := tg2 89 (by decide +kernel) rfl
theorem j_min2 : Cond.code Lib.Math.min.name Lib.Math.min.code 2 (some .int) ∈ tbG := tg2 90 (by decide +kernel) rfl
theorem j_math : Cond.initialized "java/lang/Math" ∈ tbG := tg1 10 (by decide +kernel) rfl
theorem j_sys : Cond.initialized "java/lang/System" ∈ tbG := tg1 11 (by decide +kernel) rfl
theorem j_copy1 : Cond.static arraycopyName ∈ tbG := tg2 92 (by decide +kernel) rfl
theorem j_copy2 : Cond.native arraycopyName ∈ tbG := tg2 93 (by decide +kernel) rfl
theorem j_obj1 : Cond.instanceMethod Lib.objectInit ∈ tbG := tg1 18 (by decide +kernel) rfl
theorem j_obj2 : Cond.code Lib.objectInit ⟨#[0xb1]⟩ 1 none ∈ tbG := tg1 19 (by decide +kernel) rfl
