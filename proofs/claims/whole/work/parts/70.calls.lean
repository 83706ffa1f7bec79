/-! The law: the calls, 1. -/
section
variable {X : zXT} {Γ : zGT} {Q : State → Prop} {rt : Option FieldType} {b L : Nat} {xs : Nat → Int32}
set_option maxHeartbeats 1000000 in
set_option maxRecDepth 20000 in
theorem zl_write (K : zOk X Γ code "PeriodSlotsLaw" 4 20 rt) (S : zLs X Γ b L xs) {i k : Nat} (hi : i + 3 < L) (hL : L ≤ 2048) {h : zHp} {g : zLg} (H : zREL k h h (g 0) (g 1)) (hk : k + 4 < 2 ^ 17) (kk : ∀ (h2 : zHp) (g2 : zLg), zREL (k + 40) h2 h2 (g2 0) (g2 1) → zV X Γ Q 967 (zlv X b i) [] h2 g2) : zV X Γ Q 160 (zlv X b i) [] h g := by
  have P := zl_pc H
  refine zr_aload_n K (a0 := X.2.2.2.2 0) d_law_160 rfl ?_
  refine zl_arg K S (j := 1) (jv := 1) rfl rfl (by omega) hL rfl rfl d_law_161 d_law_162 d_law_163 d_law_164 d_law_165 ?_
  refine zr_callVi (As := [.int (xs (i + 1))]) (st := []) (c := 0) K (c_Slots_write X h g (xs (i + 1)) P.1) k_Slots_write (zU_in (i := 258) (by decide +kernel) rfl) (zU_in (i := 259) (by decide +kernel) rfl) (zU_in (i := 260) (by decide +kernel) rfl) (by decide) (zC_Slots X _ _) rfl rfl (by decide) rfl (Nat.le_of_ble_eq_true rfl) d_law_166 ?_
  obtain ⟨h1, eh1⟩ : ∃ h1, h1 = (o_Slots_write h (xs (i + 1))).2 := ⟨_, rfl⟩
  have f1 : ∀ c j, 51 ≤ c → h1 c j = h c j := fun c j q => by rw [eh1]; exact fr_Slots_write c j (by omega) (by omega)
  have H1 : zREL k h h1 (g 0) (g 1) := zl_mid f1 H
  rw [← eh1]
  have N := zl_pm H1
  refine zr_aload_n K (a0 := X.2.2.2.2 51) d_law_169 rfl ?_
  refine zl_arg K S (j := 1) (jv := 1) rfl rfl (by omega) hL rfl rfl d_law_170 d_law_171 d_law_172 d_law_173 d_law_174 ?_
  refine zr_callVi (As := [.int (xs (i + 1))]) (st := [.int ((o_Slots_write h (xs (i + 1))).1)]) (c := 51) K (c_Model_write X h1 g (xs (i + 1)) N.1) k_Model_write (zU_in (i := 851) (by decide +kernel) rfl) (zU_in (i := 852) (by decide +kernel) rfl) (zU_in (i := 853) (by decide +kernel) rfl) (by decide) (zC_Model X _ _) rfl rfl (by decide) rfl (Nat.le_of_ble_eq_true rfl) d_law_175 ?_
  have E := op_write H1 (xs (i + 1))
  rw [← eh1] at E
  refine zr_icmp_eq K 967 d_law_178 (by decide) (fun _ => kk _ g (zl_end (fun c j q => fr_Model_write c j (by omega) (by omega)) E.2)) (fun q => absurd E.1 q)
set_option maxHeartbeats 1000000 in
set_option maxRecDepth 20000 in
theorem zl_wipe (K : zOk X Γ code "PeriodSlotsLaw" 4 20 rt) (S : zLs X Γ b L xs) {i k : Nat} (hi : i + 3 < L) (hL : L ≤ 2048) {h : zHp} {g : zLg} (H : zREL k h h (g 0) (g 1)) (hk : k + 4 < 2 ^ 17) (kk : ∀ (h2 : zHp) (g2 : zLg), zREL (k + 40) h2 h2 (g2 0) (g2 1) → zV X Γ Q 967 (zlv X b i) [] h2 g2) : zV X Γ Q 183 (zlv X b i) [] h g := by
  have P := zl_pc H
  refine zr_aload_n K (a0 := X.2.2.2.2 0) d_law_183 rfl ?_
  refine zr_callVi (As := []) (st := []) (c := 0) K (c_Slots_wipe X h g) k_Slots_wipe (zU_in (i := 266) (by decide +kernel) rfl) (zU_in (i := 267) (by decide +kernel) rfl) (zU_in (i := 268) (by decide +kernel) rfl) (by decide) (zC_Slots X _ _) rfl rfl (by decide) rfl (Nat.le_of_ble_eq_true rfl) d_law_184 ?_
  obtain ⟨h1, eh1⟩ : ∃ h1, h1 = (o_Slots_wipe h).2 := ⟨_, rfl⟩
  have f1 : ∀ c j, 51 ≤ c → h1 c j = h c j := fun c j q => by rw [eh1]; exact fr_Slots_wipe c j (by omega)
  have H1 : zREL k h h1 (g 0) (g 1) := zl_mid f1 H
  rw [← eh1]
  have N := zl_pm H1
  refine zr_aload_n K (a0 := X.2.2.2.2 51) d_law_187 rfl ?_
  refine zr_callVi (As := []) (st := [.int ((o_Slots_wipe h).1)]) (c := 51) K (c_Model_wipe X h1 g) k_Model_wipe (zU_in (i := 859) (by decide +kernel) rfl) (zU_in (i := 860) (by decide +kernel) rfl) (zU_in (i := 861) (by decide +kernel) rfl) (by decide) (zC_Model X _ _) rfl rfl (by decide) rfl (Nat.le_of_ble_eq_true rfl) d_law_188 ?_
  have E := op_wipe H1
  rw [← eh1] at E
  refine zr_icmp_eq K 967 d_law_191 (by decide) (fun _ => kk _ g (zl_end (fun c j q => fr_Model_wipe c j (by omega)) E.2)) (fun q => absurd E.1 q)
set_option maxHeartbeats 1000000 in
set_option maxRecDepth 20000 in
theorem zl_fault (K : zOk X Γ code "PeriodSlotsLaw" 4 20 rt) (S : zLs X Γ b L xs) {i k : Nat} (hi : i + 3 < L) (hL : L ≤ 2048) {h : zHp} {g : zLg} (H : zREL k h h (g 0) (g 1)) (hk : k + 4 < 2 ^ 17) (kk : ∀ (h2 : zHp) (g2 : zLg), zREL (k + 40) h2 h2 (g2 0) (g2 1) → zV X Γ Q 967 (zlv X b i) [] h2 g2) : zV X Γ Q 196 (zlv X b i) [] h g := by
  have P := zl_pc H
  refine zr_aload_n K (a0 := X.2.2.2.2 0) d_law_196 rfl ?_
  refine zr_callVi (As := []) (st := []) (c := 0) K (c_Slots_fault X h g P.1) k_Slots_fault (zU_in (i := 270) (by decide +kernel) rfl) (zU_in (i := 271) (by decide +kernel) rfl) (zU_in (i := 272) (by decide +kernel) rfl) (by decide) (zC_Slots X _ _) rfl rfl (by decide) rfl (Nat.le_of_ble_eq_true rfl) d_law_197 ?_
  obtain ⟨h1, eh1⟩ : ∃ h1, h1 = (o_Slots_fault h).2 := ⟨_, rfl⟩
  have f1 : ∀ c j, 51 ≤ c → h1 c j = h c j := fun c j q => by rw [eh1]; exact fr_Slots_fault c j (by omega) (by omega) (by omega) (by omega) (by omega) (by omega) (by omega) (by omega) (by omega) (by omega) (by omega) (by omega) (by omega) (by omega)
  have H1 : zREL k h h1 (g 0) (g 1) := zl_mid f1 H
  rw [← eh1]
  have N := zl_pm H1
  refine zr_aload_n K (a0 := X.2.2.2.2 51) d_law_200 rfl ?_
  refine zr_callVi (As := []) (st := [.int ((o_Slots_fault h).1)]) (c := 51) K (c_Model_fault X h1 g N.1 N.2.2.2.2.1) k_Model_fault (zU_in (i := 863) (by decide +kernel) rfl) (zU_in (i := 864) (by decide +kernel) rfl) (zU_in (i := 865) (by decide +kernel) rfl) (by decide) (zC_Model X _ _) rfl rfl (by decide) rfl (Nat.le_of_ble_eq_true rfl) d_law_201 ?_
  have E := op_fault H1
  rw [← eh1] at E
  refine zr_icmp_eq K 967 d_law_204 (by decide) (fun _ => kk _ g (zl_end (fun c j q => fr_Model_fault c j (by omega) (by omega) (by omega) (by omega) (by omega) (by omega) (by omega)) E.2)) (fun q => absurd E.1 q)
set_option maxHeartbeats 1000000 in
set_option maxRecDepth 20000 in
theorem zl_field (K : zOk X Γ code "PeriodSlotsLaw" 4 20 rt) (S : zLs X Γ b L xs) {i k : Nat} (hi : i + 3 < L) (hL : L ≤ 2048) {h : zHp} {g : zLg} (H : zREL k h h (g 0) (g 1)) (hk : k + 4 < 2 ^ 17) (kk : ∀ (h2 : zHp) (g2 : zLg), zREL (k + 40) h2 h2 (g2 0) (g2 1) → zV X Γ Q 967 (zlv X b i) [] h2 g2) : zV X Γ Q 209 (zlv X b i) [] h g := by
  have P := zl_pc H
  refine zr_aload_n K (a0 := X.2.2.2.2 0) d_law_209 rfl ?_
  refine zr_callVi (As := []) (st := []) (c := 0) K (c_Slots_field X h g P.1) k_Slots_field (zU_in (i := 371) (by decide +kernel) rfl) (zU_in (i := 372) (by decide +kernel) rfl) (zU_in (i := 373) (by decide +kernel) rfl) (by decide) (zC_Slots X _ _) rfl rfl (by decide) rfl (Nat.le_of_ble_eq_true rfl) d_law_210 ?_
  obtain ⟨h1, eh1⟩ : ∃ h1, h1 = (o_Slots_field h).2 := ⟨_, rfl⟩
  have f1 : ∀ c j, 51 ≤ c → h1 c j = h c j := fun c j q => by rw [eh1]; exact fr_Slots_field c j (by omega) (by omega) (by omega) (by omega) (by omega) (by omega) (by omega) (by omega) (by omega) (by omega) (by omega) (by omega) (by omega) (by omega) (by omega) (by omega) (by omega) (by omega) (by omega) (by omega) (by omega) (by omega) (by omega) (by omega) (by omega) (by omega) (by omega) (by omega) (by omega) (by omega)
  have H1 : zREL k h h1 (g 0) (g 1) := zl_mid f1 H
  rw [← eh1]
  have N := zl_pm H1
  refine zr_aload_n K (a0 := X.2.2.2.2 51) d_law_213 rfl ?_
  refine zr_callVi (As := []) (st := [.int ((o_Slots_field h).1)]) (c := 51) K (c_Model_field X h1 g N.1 N.2.2.2.2.1) k_Model_field (zU_in (i := 893) (by decide +kernel) rfl) (zU_in (i := 894) (by decide +kernel) rfl) (zU_in (i := 895) (by decide +kernel) rfl) (by decide) (zC_Model X _ _) rfl rfl (by decide) rfl (Nat.le_of_ble_eq_true rfl) d_law_214 ?_
  have E := op_field H1
  rw [← eh1] at E
  refine zr_icmp_eq K 967 d_law_217 (by decide) (fun _ => kk _ g (zl_end (fun c j q => fr_Model_field c j (by omega) (by omega) (by omega) (by omega) (by omega) (by omega) (by omega) (by omega) (by omega) (by omega) (by omega) (by omega)) E.2)) (fun q => absurd E.1 q)
set_option maxHeartbeats 1000000 in
set_option maxRecDepth 20000 in
theorem zl_about (K : zOk X Γ code "PeriodSlotsLaw" 4 20 rt) (S : zLs X Γ b L xs) {i k : Nat} (hi : i + 3 < L) (hL : L ≤ 2048) {h : zHp} {g : zLg} (H : zREL k h h (g 0) (g 1)) (hk : k + 4 < 2 ^ 17) (kk : ∀ (h2 : zHp) (g2 : zLg), zREL (k + 40) h2 h2 (g2 0) (g2 1) → zV X Γ Q 967 (zlv X b i) [] h2 g2) : zV X Γ Q 222 (zlv X b i) [] h g := by
  have P := zl_pc H
  refine zr_aload_n K (a0 := X.2.2.2.2 0) d_law_222 rfl ?_
  refine zl_arg K S (j := 1) (jv := 1) rfl rfl (by omega) hL rfl rfl d_law_223 d_law_224 d_law_225 d_law_226 d_law_227 ?_
  refine zr_callVi (As := [.int (xs (i + 1))]) (st := []) (c := 0) K (c_Slots_about X h g (xs (i + 1)) P.2.1) k_Slots_about (zU_in (i := 393) (by decide +kernel) rfl) (zU_in (i := 394) (by decide +kernel) rfl) (zU_in (i := 395) (by decide +kernel) rfl) (by decide) (zC_Slots X _ _) rfl rfl (by decide) rfl (Nat.le_of_ble_eq_true rfl) d_law_228 ?_
  have H1 := H
  have N := zl_pm H1
  refine zr_aload_n K (a0 := X.2.2.2.2 51) d_law_231 rfl ?_
  refine zl_arg K S (j := 1) (jv := 1) rfl rfl (by omega) hL rfl rfl d_law_232 d_law_233 d_law_234 d_law_235 d_law_236 ?_
  refine zr_callVi (As := [.int (xs (i + 1))]) (st := [.int (o_Slots_about h (xs (i + 1)))]) (c := 51) K (c_Model_about X h g (xs (i + 1)) N.2.1 N.2.2.2.2.2.1) k_Model_about (zU_in (i := 897) (by decide +kernel) rfl) (zU_in (i := 898) (by decide +kernel) rfl) (zU_in (i := 899) (by decide +kernel) rfl) (by decide) (zC_Model X _ _) rfl rfl (by decide) rfl (Nat.le_of_ble_eq_true rfl) d_law_237 ?_
  have E := op_about H1 (xs (i + 1))
  refine zr_icmp_eq K 967 d_law_240 (by decide) (fun _ => kk _ g (zl_end (fun c j q => fr_Model_about c j (by omega) (by omega)) E.2)) (fun q => absurd E.1 q)
set_option maxHeartbeats 1000000 in
set_option maxRecDepth 20000 in
theorem zl_station (K : zOk X Γ code "PeriodSlotsLaw" 4 20 rt) (S : zLs X Γ b L xs) {i k : Nat} (hi : i + 3 < L) (hL : L ≤ 2048) {h : zHp} {g : zLg} (H : zREL k h h (g 0) (g 1)) (hk : k + 4 < 2 ^ 17) (kk : ∀ (h2 : zHp) (g2 : zLg), zREL (k + 40) h2 h2 (g2 0) (g2 1) → zV X Γ Q 967 (zlv X b i) [] h2 g2) : zV X Γ Q 245 (zlv X b i) [] h g := by
  have P := zl_pc H
  refine zr_aload_n K (a0 := X.2.2.2.2 0) d_law_245 rfl ?_
  refine zl_arg K S (j := 1) (jv := 1) rfl rfl (by omega) hL rfl rfl d_law_246 d_law_247 d_law_248 d_law_249 d_law_250 ?_
  refine zl_arg K S (j := 2) (jv := 2) rfl rfl (by omega) hL rfl rfl d_law_251 d_law_252 d_law_253 d_law_254 d_law_255 ?_
  refine zr_callVi (As := [.int (xs (i + 1)), .int (xs (i + 2))]) (st := []) (c := 0) K (c_Slots_station X h g (xs (i + 1)) (xs (i + 2)) P.2.1) k_Slots_station (zU_in (i := 442) (by decide +kernel) rfl) (zU_in (i := 443) (by decide +kernel) rfl) (zU_in (i := 444) (by decide +kernel) rfl) (by decide) (zC_Slots X _ _) rfl rfl (by decide) rfl (Nat.le_of_ble_eq_true rfl) d_law_256 ?_
  have H1 := H
  have N := zl_pm H1
  refine zr_aload_n K (a0 := X.2.2.2.2 51) d_law_259 rfl ?_
  refine zl_arg K S (j := 1) (jv := 1) rfl rfl (by omega) hL rfl rfl d_law_260 d_law_261 d_law_262 d_law_263 d_law_264 ?_
  refine zl_arg K S (j := 2) (jv := 2) rfl rfl (by omega) hL rfl rfl d_law_265 d_law_266 d_law_267 d_law_268 d_law_269 ?_
  refine zr_callVi (As := [.int (xs (i + 1)), .int (xs (i + 2))]) (st := [.int (o_Slots_station h (xs (i + 1)) (xs (i + 2)))]) (c := 51) K (c_Model_station X h g (xs (i + 1)) (xs (i + 2)) N.2.1 N.2.2.2.2.2.1) k_Model_station (zU_in (i := 976) (by decide +kernel) rfl) (zU_in (i := 977) (by decide +kernel) rfl) (zU_in (i := 978) (by decide +kernel) rfl) (by decide) (zC_Model X _ _) rfl rfl (by decide) rfl (Nat.le_of_ble_eq_true rfl) d_law_270 ?_
  have E := op_station H1 (xs (i + 1)) (xs (i + 2))
  refine zr_icmp_eq K 967 d_law_273 (by decide) (fun _ => kk _ g (zl_end (fun c j q => fr_Model_station c j (by omega) (by omega)) E.2)) (fun q => absurd E.1 q)
set_option maxHeartbeats 1000000 in
set_option maxRecDepth 20000 in
theorem zl_round (K : zOk X Γ code "PeriodSlotsLaw" 4 20 rt) (S : zLs X Γ b L xs) {i k : Nat} (hi : i + 3 < L) (hL : L ≤ 2048) {h : zHp} {g : zLg} (H : zREL k h h (g 0) (g 1)) (hk : k + 4 < 2 ^ 17) (kk : ∀ (h2 : zHp) (g2 : zLg), zREL (k + 40) h2 h2 (g2 0) (g2 1) → zV X Γ Q 967 (zlv X b i) [] h2 g2) : zV X Γ Q 278 (zlv X b i) [] h g := by
  have P := zl_pc H
  refine zr_aload_n K (a0 := X.2.2.2.2 0) d_law_278 rfl ?_
  refine zr_callVi (As := []) (st := []) (c := 0) K (c_Slots_round X h g P.2.2.1 P.2.2.2.1 P.2.2.2.2.1 P.2.1) k_Slots_round (zU_in (i := 449) (by decide +kernel) rfl) (zU_in (i := 450) (by decide +kernel) rfl) (zU_in (i := 451) (by decide +kernel) rfl) (by decide) (zC_Slots X _ _) rfl rfl (by decide) rfl (Nat.le_of_ble_eq_true rfl) d_law_279 ?_
  obtain ⟨h1, eh1⟩ : ∃ h1, h1 = (o_Slots_round h).2 := ⟨_, rfl⟩
  have f1 : ∀ c j, 51 ≤ c → h1 c j = h c j := fun c j q => by rw [eh1]; exact fr_Slots_round c j (by omega) (by omega) (by omega) (by omega) (by omega) (by omega) (by omega) (by omega) (by omega) (by omega) (by omega) (by omega)
  have H1 : zREL k h h1 (g 0) (g 1) := zl_mid f1 H
  rw [← eh1]
  have N := zl_pm H1
  refine zr_aload_n K (a0 := X.2.2.2.2 51) d_law_282 rfl ?_
  refine zr_callVi (As := []) (st := [.int ((o_Slots_round h).1)]) (c := 51) K (c_Model_round X h1 g N.2.1 N.2.2.2.2.2.1 N.2.2.1) k_Model_round (zU_in (i := 984) (by decide +kernel) rfl) (zU_in (i := 985) (by decide +kernel) rfl) (zU_in (i := 986) (by decide +kernel) rfl) (by decide) (zC_Model X _ _) rfl rfl (by decide) rfl (Nat.le_of_ble_eq_true rfl) d_law_283 ?_
  have E := op_round H1 (Nat.lt_of_le_of_lt (Nat.le_add_right _ _) hk)
  rw [← eh1] at E
  refine zr_icmp_eq K 967 d_law_286 (by decide) (fun _ => kk _ g (zl_end (fun c j q => fr_Model_round c j (by omega) (by omega) (by omega) (by omega) (by omega) (by omega) (by omega) (by omega) (by omega)) E.2)) (fun q => absurd E.1 q)
set_option maxHeartbeats 1000000 in
set_option maxRecDepth 20000 in
theorem zl_turn (K : zOk X Γ code "PeriodSlotsLaw" 4 20 rt) (S : zLs X Γ b L xs) {i k : Nat} (hi : i + 3 < L) (hL : L ≤ 2048) {h : zHp} {g : zLg} (H : zREL k h h (g 0) (g 1)) (hk : k + 4 < 2 ^ 17) (kk : ∀ (h2 : zHp) (g2 : zLg), zREL (k + 40) h2 h2 (g2 0) (g2 1) → zV X Γ Q 967 (zlv X b i) [] h2 g2) : zV X Γ Q 291 (zlv X b i) [] h g := by
  have P := zl_pc H
  refine zr_aload_n K (a0 := X.2.2.2.2 0) d_law_291 rfl ?_
  refine zl_arg K S (j := 1) (jv := 1) rfl rfl (by omega) hL rfl rfl d_law_292 d_law_293 d_law_294 d_law_295 d_law_296 ?_
  refine zl_arg K S (j := 2) (jv := 2) rfl rfl (by omega) hL rfl rfl d_law_297 d_law_298 d_law_299 d_law_300 d_law_301 ?_
  refine zr_callVi (As := [.int (xs (i + 1)), .int (xs (i + 2))]) (st := []) (c := 0) K (c_Slots_turn X h g (xs (i + 1)) (xs (i + 2)) P.2.2.1 P.2.2.2.1 P.2.2.2.2.1 P.2.1) k_Slots_turn (zU_in (i := 481) (by decide +kernel) rfl) (zU_in (i := 482) (by decide +kernel) rfl) (zU_in (i := 483) (by decide +kernel) rfl) (by decide) (zC_Slots X _ _) rfl rfl (by decide) rfl (Nat.le_of_ble_eq_true rfl) d_law_302 ?_
  obtain ⟨h1, eh1⟩ : ∃ h1, h1 = (o_Slots_turn h (xs (i + 1)) (xs (i + 2))).2 := ⟨_, rfl⟩
  have f1 : ∀ c j, 51 ≤ c → h1 c j = h c j := fun c j q => by rw [eh1]; exact fr_Slots_turn c j (by omega) (by omega) (by omega) (by omega) (by omega) (by omega) (by omega) (by omega) (by omega) (by omega) (by omega)
  have H1 : zREL k h h1 (g 0) (g 1) := zl_mid f1 H
  rw [← eh1]
  have N := zl_pm H1
  refine zr_aload_n K (a0 := X.2.2.2.2 51) d_law_305 rfl ?_
  refine zl_arg K S (j := 1) (jv := 1) rfl rfl (by omega) hL rfl rfl d_law_306 d_law_307 d_law_308 d_law_309 d_law_310 ?_
  refine zl_arg K S (j := 2) (jv := 2) rfl rfl (by omega) hL rfl rfl d_law_311 d_law_312 d_law_313 d_law_314 d_law_315 ?_
  refine zr_callVi (As := [.int (xs (i + 1)), .int (xs (i + 2))]) (st := [.int ((o_Slots_turn h (xs (i + 1)) (xs (i + 2))).1)]) (c := 51) K (c_Model_turn X h1 g (xs (i + 1)) (xs (i + 2)) N.2.1 N.2.2.2.2.2.1 N.2.2.1) k_Model_turn (zU_in (i := 996) (by decide +kernel) rfl) (zU_in (i := 997) (by decide +kernel) rfl) (zU_in (i := 998) (by decide +kernel) rfl) (by decide) (zC_Model X _ _) rfl rfl (by decide) rfl (Nat.le_of_ble_eq_true rfl) d_law_316 ?_
  have E := op_turn H1 (Nat.lt_of_le_of_lt (Nat.le_add_right _ _) hk) (xs (i + 1)) (xs (i + 2))
  rw [← eh1] at E
  refine zr_icmp_eq K 967 d_law_319 (by decide) (fun _ => kk _ g (zl_end (fun c j q => fr_Model_turn c j (by omega) (by omega) (by omega) (by omega)) E.2)) (fun q => absurd E.1 q)
set_option maxHeartbeats 1000000 in
set_option maxRecDepth 20000 in
theorem zl_lay (K : zOk X Γ code "PeriodSlotsLaw" 4 20 rt) (S : zLs X Γ b L xs) {i k : Nat} (hi : i + 3 < L) (hL : L ≤ 2048) {h : zHp} {g : zLg} (H : zREL k h h (g 0) (g 1)) (hk : k + 4 < 2 ^ 17) (kk : ∀ (h2 : zHp) (g2 : zLg), zREL (k + 40) h2 h2 (g2 0) (g2 1) → zV X Γ Q 967 (zlv X b i) [] h2 g2) : zV X Γ Q 324 (zlv X b i) [] h g := by
  have P := zl_pc H
  refine zr_aload_n K (a0 := X.2.2.2.2 0) d_law_324 rfl ?_
  refine zl_arg K S (j := 1) (jv := 1) rfl rfl (by omega) hL rfl rfl d_law_325 d_law_326 d_law_327 d_law_328 d_law_329 ?_
  refine zl_arg K S (j := 2) (jv := 2) rfl rfl (by omega) hL rfl rfl d_law_330 d_law_331 d_law_332 d_law_333 d_law_334 ?_
  refine zr_callVi (As := [.int (xs (i + 1)), .int (xs (i + 2))]) (st := []) (c := 0) K (c_Slots_lay X h g (xs (i + 1)) (xs (i + 2)) P.2.2.1 P.2.2.2.1 P.2.2.2.2.1 P.2.1) k_Slots_lay (zU_in (i := 492) (by decide +kernel) rfl) (zU_in (i := 493) (by decide +kernel) rfl) (zU_in (i := 494) (by decide +kernel) rfl) (by decide) (zC_Slots X _ _) rfl rfl (by decide) rfl (Nat.le_of_ble_eq_true rfl) d_law_335 ?_
  obtain ⟨h1, eh1⟩ : ∃ h1, h1 = (o_Slots_lay h (xs (i + 1)) (xs (i + 2))).2 := ⟨_, rfl⟩
  have f1 : ∀ c j, 51 ≤ c → h1 c j = h c j := fun c j q => by rw [eh1]; exact fr_Slots_lay c j (by omega) (by omega) (by omega) (by omega) (by omega) (by omega) (by omega) (by omega)
  have H1 : zREL k h h1 (g 0) (g 1) := zl_mid f1 H
  rw [← eh1]
  have N := zl_pm H1
  refine zr_aload_n K (a0 := X.2.2.2.2 51) d_law_338 rfl ?_
  refine zl_arg K S (j := 1) (jv := 1) rfl rfl (by omega) hL rfl rfl d_law_339 d_law_340 d_law_341 d_law_342 d_law_343 ?_
  refine zl_arg K S (j := 2) (jv := 2) rfl rfl (by omega) hL rfl rfl d_law_344 d_law_345 d_law_346 d_law_347 d_law_348 ?_
  refine zr_callVi (As := [.int (xs (i + 1)), .int (xs (i + 2))]) (st := [.int ((o_Slots_lay h (xs (i + 1)) (xs (i + 2))).1)]) (c := 51) K (c_Model_lay X h1 g (xs (i + 1)) (xs (i + 2)) N.2.1 N.2.2.2.2.2.1 N.2.2.1) k_Model_lay (zU_in (i := 1006) (by decide +kernel) rfl) (zU_in (i := 1007) (by decide +kernel) rfl) (zU_in (i := 1008) (by decide +kernel) rfl) (by decide) (zC_Model X _ _) rfl rfl (by decide) rfl (Nat.le_of_ble_eq_true rfl) d_law_349 ?_
  have E := op_lay H1 (Nat.lt_of_le_of_lt (Nat.le_add_right _ _) hk) (xs (i + 1)) (xs (i + 2))
  rw [← eh1] at E
  refine zr_icmp_eq K 967 d_law_352 (by decide) (fun _ => kk _ g (zl_end (fun c j q => fr_Model_lay c j (by omega) (by omega) (by omega) (by omega)) E.2)) (fun q => absurd E.1 q)
set_option maxHeartbeats 1000000 in
set_option maxRecDepth 20000 in
theorem zl_shift (K : zOk X Γ code "PeriodSlotsLaw" 4 20 rt) (S : zLs X Γ b L xs) {i k : Nat} (hi : i + 3 < L) (hL : L ≤ 2048) {h : zHp} {g : zLg} (H : zREL k h h (g 0) (g 1)) (hk : k + 4 < 2 ^ 17) (kk : ∀ (h2 : zHp) (g2 : zLg), zREL (k + 40) h2 h2 (g2 0) (g2 1) → zV X Γ Q 967 (zlv X b i) [] h2 g2) : zV X Γ Q 357 (zlv X b i) [] h g := by
  have P := zl_pc H
  refine zr_aload_n K (a0 := X.2.2.2.2 0) d_law_357 rfl ?_
  refine zl_arg K S (j := 1) (jv := 1) rfl rfl (by omega) hL rfl rfl d_law_358 d_law_359 d_law_360 d_law_361 d_law_362 ?_
  refine zl_arg K S (j := 2) (jv := 2) rfl rfl (by omega) hL rfl rfl d_law_363 d_law_364 d_law_365 d_law_366 d_law_367 ?_
  refine zr_callVi (As := [.int (xs (i + 1)), .int (xs (i + 2))]) (st := []) (c := 0) K (c_Slots_shift X h g (xs (i + 1)) (xs (i + 2)) P.2.2.1 P.2.2.2.1 P.2.2.2.2.1 P.2.1) k_Slots_shift (zU_in (i := 504) (by decide +kernel) rfl) (zU_in (i := 505) (by decide +kernel) rfl) (zU_in (i := 506) (by decide +kernel) rfl) (by decide) (zC_Slots X _ _) rfl rfl (by decide) rfl (Nat.le_of_ble_eq_true rfl) d_law_368 ?_
  obtain ⟨h1, eh1⟩ : ∃ h1, h1 = (o_Slots_shift h (xs (i + 1)) (xs (i + 2))).2 := ⟨_, rfl⟩
  have f1 : ∀ c j, 51 ≤ c → h1 c j = h c j := fun c j q => by rw [eh1]; exact fr_Slots_shift c j (by omega) (by omega) (by omega) (by omega) (by omega) (by omega) (by omega) (by omega)
  have H1 : zREL k h h1 (g 0) (g 1) := zl_mid f1 H
  rw [← eh1]
  have N := zl_pm H1
  refine zr_aload_n K (a0 := X.2.2.2.2 51) d_law_371 rfl ?_
  refine zl_arg K S (j := 1) (jv := 1) rfl rfl (by omega) hL rfl rfl d_law_372 d_law_373 d_law_374 d_law_375 d_law_376 ?_
  refine zl_arg K S (j := 2) (jv := 2) rfl rfl (by omega) hL rfl rfl d_law_377 d_law_378 d_law_379 d_law_380 d_law_381 ?_
  refine zr_callVi (As := [.int (xs (i + 1)), .int (xs (i + 2))]) (st := [.int ((o_Slots_shift h (xs (i + 1)) (xs (i + 2))).1)]) (c := 51) K (c_Model_shift X h1 g (xs (i + 1)) (xs (i + 2)) N.2.1 N.2.2.2.2.2.1 N.2.2.1) k_Model_shift (zU_in (i := 1014) (by decide +kernel) rfl) (zU_in (i := 1015) (by decide +kernel) rfl) (zU_in (i := 1016) (by decide +kernel) rfl) (by decide) (zC_Model X _ _) rfl rfl (by decide) rfl (Nat.le_of_ble_eq_true rfl) d_law_382 ?_
  have E := op_shift H1 (Nat.lt_of_le_of_lt (Nat.le_add_right _ _) hk) (xs (i + 1)) (xs (i + 2))
  rw [← eh1] at E
  refine zr_icmp_eq K 967 d_law_385 (by decide) (fun _ => kk _ g (zl_end (fun c j q => fr_Model_shift c j (by omega) (by omega) (by omega) (by omega) (by omega) (by omega)) E.2)) (fun q => absurd E.1 q)
set_option maxHeartbeats 1000000 in
set_option maxRecDepth 20000 in
theorem zl_join (K : zOk X Γ code "PeriodSlotsLaw" 4 20 rt) (S : zLs X Γ b L xs) {i k : Nat} (hi : i + 3 < L) (hL : L ≤ 2048) {h : zHp} {g : zLg} (H : zREL k h h (g 0) (g 1)) (hk : k + 4 < 2 ^ 17) (kk : ∀ (h2 : zHp) (g2 : zLg), zREL (k + 40) h2 h2 (g2 0) (g2 1) → zV X Γ Q 967 (zlv X b i) [] h2 g2) : zV X Γ Q 390 (zlv X b i) [] h g := by
  have P := zl_pc H
  refine zr_aload_n K (a0 := X.2.2.2.2 0) d_law_390 rfl ?_
  refine zl_arg K S (j := 1) (jv := 1) rfl rfl (by omega) hL rfl rfl d_law_391 d_law_392 d_law_393 d_law_394 d_law_395 ?_
  refine zl_arg K S (j := 2) (jv := 2) rfl rfl (by omega) hL rfl rfl d_law_396 d_law_397 d_law_398 d_law_399 d_law_400 ?_
  refine zr_callVi (As := [.int (xs (i + 1)), .int (xs (i + 2))]) (st := []) (c := 0) K (c_Slots_join X h g (xs (i + 1)) (xs (i + 2)) P.2.2.1 P.2.2.2.1 P.2.2.2.2.1 P.2.1) k_Slots_join (zU_in (i := 516) (by decide +kernel) rfl) (zU_in (i := 517) (by decide +kernel) rfl) (zU_in (i := 518) (by decide +kernel) rfl) (by decide) (zC_Slots X _ _) rfl rfl (by decide) rfl (Nat.le_of_ble_eq_true rfl) d_law_401 ?_
  obtain ⟨h1, eh1⟩ : ∃ h1, h1 = (o_Slots_join h (xs (i + 1)) (xs (i + 2))).2 := ⟨_, rfl⟩
  have f1 : ∀ c j, 51 ≤ c → h1 c j = h c j := fun c j q => by rw [eh1]; exact fr_Slots_join c j (by omega) (by omega) (by omega) (by omega) (by omega) (by omega) (by omega) (by omega) (by omega) (by omega) (by omega) (by omega) (by omega) (by omega) (by omega) (by omega) (by omega) (by omega) (by omega) (by omega) (by omega) (by omega) (by omega) (by omega) (by omega) (by omega)
  have H1 : zREL k h h1 (g 0) (g 1) := zl_mid f1 H
  rw [← eh1]
  have N := zl_pm H1
  refine zr_aload_n K (a0 := X.2.2.2.2 51) d_law_404 rfl ?_
  refine zl_arg K S (j := 1) (jv := 1) rfl rfl (by omega) hL rfl rfl d_law_405 d_law_406 d_law_407 d_law_408 d_law_409 ?_
  refine zl_arg K S (j := 2) (jv := 2) rfl rfl (by omega) hL rfl rfl d_law_410 d_law_411 d_law_412 d_law_413 d_law_414 ?_
  refine zr_callVi (As := [.int (xs (i + 1)), .int (xs (i + 2))]) (st := [.int ((o_Slots_join h (xs (i + 1)) (xs (i + 2))).1)]) (c := 51) K (c_Model_join X h1 g (xs (i + 1)) (xs (i + 2)) N.2.1 N.2.2.2.2.2.1 N.2.2.1) k_Model_join (zU_in (i := 1023) (by decide +kernel) rfl) (zU_in (i := 1024) (by decide +kernel) rfl) (zU_in (i := 1025) (by decide +kernel) rfl) (by decide) (zC_Model X _ _) rfl rfl (by decide) rfl (Nat.le_of_ble_eq_true rfl) d_law_415 ?_
  have E := op_join H1 (Nat.lt_of_le_of_lt (Nat.le_add_right _ _) hk) (xs (i + 1)) (xs (i + 2))
  rw [← eh1] at E
  refine zr_icmp_eq K 967 d_law_418 (by decide) (fun _ => kk _ g (zl_end (fun c j q => fr_Model_join c j (by omega) (by omega) (by omega) (by omega) (by omega) (by omega) (by omega)) E.2)) (fun q => absurd E.1 q)
set_option maxHeartbeats 1000000 in
set_option maxRecDepth 20000 in
theorem zl_run (K : zOk X Γ code "PeriodSlotsLaw" 4 20 rt) (S : zLs X Γ b L xs) {i k : Nat} (hi : i + 3 < L) (hL : L ≤ 2048) {h : zHp} {g : zLg} (H : zREL k h h (g 0) (g 1)) (hk : k + 4 < 2 ^ 17) (kk : ∀ (h2 : zHp) (g2 : zLg), zREL (k + 40) h2 h2 (g2 0) (g2 1) → zV X Γ Q 967 (zlv X b i) [] h2 g2) : zV X Γ Q 423 (zlv X b i) [] h g := by
  have P := zl_pc H
  refine zr_aload_n K (a0 := X.2.2.2.2 0) d_law_423 rfl ?_
  refine zr_callVi (As := []) (st := []) (c := 0) K (c_Slots_run X h g P.2.2.1 P.2.2.2.1 P.2.2.2.2.1 P.2.1) k_Slots_run (zU_in (i := 532) (by decide +kernel) rfl) (zU_in (i := 533) (by decide +kernel) rfl) (zU_in (i := 534) (by decide +kernel) rfl) (by decide) (zC_Slots X _ _) rfl rfl (by decide) rfl (Nat.le_of_ble_eq_true rfl) d_law_424 ?_
  obtain ⟨h1, eh1⟩ : ∃ h1, h1 = (o_Slots_run h).2 := ⟨_, rfl⟩
  have f1 : ∀ c j, 51 ≤ c → h1 c j = h c j := fun c j q => by rw [eh1]; exact fr_Slots_run c j (by omega) (by omega) (by omega) (by omega) (by omega) (by omega) (by omega) (by omega) (by omega) (by omega) (by omega) (by omega) (by omega)
  have H1 : zREL k h h1 (g 0) (g 1) := zl_mid f1 H
  rw [← eh1]
  have N := zl_pm H1
  refine zr_aload_n K (a0 := X.2.2.2.2 51) d_law_427 rfl ?_
  refine zr_callVi (As := []) (st := [.int ((o_Slots_run h).1)]) (c := 51) K (c_Model_run X h1 g N.2.1 N.2.2.2.2.2.1 N.2.2.1) k_Model_run (zU_in (i := 1030) (by decide +kernel) rfl) (zU_in (i := 1031) (by decide +kernel) rfl) (zU_in (i := 1032) (by decide +kernel) rfl) (by decide) (zC_Model X _ _) rfl rfl (by decide) rfl (Nat.le_of_ble_eq_true rfl) d_law_428 ?_
  have E := op_run H1 (Nat.lt_of_le_of_lt (Nat.le_add_right _ _) hk)
  rw [← eh1] at E
  refine zr_icmp_eq K 967 d_law_431 (by decide) (fun _ => kk _ g (zl_end (fun c j q => fr_Model_run c j (by omega) (by omega) (by omega) (by omega) (by omega) (by omega) (by omega) (by omega) (by omega) (by omega)) E.2)) (fun q => absurd E.1 q)
set_option maxHeartbeats 1000000 in
set_option maxRecDepth 20000 in
theorem zl_undo (K : zOk X Γ code "PeriodSlotsLaw" 4 20 rt) (S : zLs X Γ b L xs) {i k : Nat} (hi : i + 3 < L) (hL : L ≤ 2048) {h : zHp} {g : zLg} (H : zREL k h h (g 0) (g 1)) (hk : k + 4 < 2 ^ 17) (kk : ∀ (h2 : zHp) (g2 : zLg), zREL (k + 40) h2 h2 (g2 0) (g2 1) → zV X Γ Q 967 (zlv X b i) [] h2 g2) : zV X Γ Q 436 (zlv X b i) [] h g := by
  have P := zl_pc H
  refine zr_aload_n K (a0 := X.2.2.2.2 0) d_law_436 rfl ?_
  refine zr_callVi (As := []) (st := []) (c := 0) K (c_Slots_undo X h g P.2.2.1 P.2.2.2.1 P.2.2.2.2.1 P.2.1) k_Slots_undo (zU_in (i := 544) (by decide +kernel) rfl) (zU_in (i := 545) (by decide +kernel) rfl) (zU_in (i := 546) (by decide +kernel) rfl) (by decide) (zC_Slots X _ _) rfl rfl (by decide) rfl (Nat.le_of_ble_eq_true rfl) d_law_437 ?_
  obtain ⟨h1, eh1⟩ : ∃ h1, h1 = (o_Slots_undo h).2 := ⟨_, rfl⟩
  have f1 : ∀ c j, 51 ≤ c → h1 c j = h c j := fun c j q => by rw [eh1]; exact fr_Slots_undo c j (by omega) (by omega) (by omega) (by omega) (by omega) (by omega) (by omega) (by omega) (by omega) (by omega) (by omega)
  have H1 : zREL k h h1 (g 0) (g 1) := zl_mid f1 H
  rw [← eh1]
  have N := zl_pm H1
  refine zr_aload_n K (a0 := X.2.2.2.2 51) d_law_440 rfl ?_
  refine zr_callVi (As := []) (st := [.int ((o_Slots_undo h).1)]) (c := 51) K (c_Model_undo X h1 g N.2.2.1) k_Model_undo (zU_in (i := 1038) (by decide +kernel) rfl) (zU_in (i := 1039) (by decide +kernel) rfl) (zU_in (i := 1040) (by decide +kernel) rfl) (by decide) (zC_Model X _ _) rfl rfl (by decide) rfl (Nat.le_of_ble_eq_true rfl) d_law_441 ?_
  have E := op_undo H1 (Nat.lt_of_le_of_lt (Nat.le_add_right _ _) hk)
  rw [← eh1] at E
  refine zr_icmp_eq K 967 d_law_444 (by decide) (fun _ => kk _ g (zl_end (fun c j q => fr_Model_undo c j (by omega) (by omega) (by omega)) E.2)) (fun q => absurd E.1 q)
set_option maxHeartbeats 1000000 in
set_option maxRecDepth 20000 in
theorem zl_ahead (K : zOk X Γ code "PeriodSlotsLaw" 4 20 rt) (S : zLs X Γ b L xs) {i k : Nat} (hi : i + 3 < L) (hL : L ≤ 2048) {h : zHp} {g : zLg} (H : zREL k h h (g 0) (g 1)) (hk : k + 4 < 2 ^ 17) (kk : ∀ (h2 : zHp) (g2 : zLg), zREL (k + 40) h2 h2 (g2 0) (g2 1) → zV X Γ Q 967 (zlv X b i) [] h2 g2) : zV X Γ Q 449 (zlv X b i) [] h g := by
  have P := zl_pc H
  refine zr_aload_n K (a0 := X.2.2.2.2 0) d_law_449 rfl ?_
  refine zl_arg K S (j := 1) (jv := 1) rfl rfl (by omega) hL rfl rfl d_law_450 d_law_451 d_law_452 d_law_453 d_law_454 ?_
  refine zr_callVi (As := [.int (xs (i + 1))]) (st := []) (c := 0) K (c_Slots_ahead X h g (xs (i + 1)) P.2.1) k_Slots_ahead (zU_in (i := 564) (by decide +kernel) rfl) (zU_in (i := 565) (by decide +kernel) rfl) (zU_in (i := 566) (by decide +kernel) rfl) (by decide) (zC_Slots X _ _) rfl rfl (by decide) rfl (Nat.le_of_ble_eq_true rfl) d_law_455 ?_
  obtain ⟨h1, eh1⟩ : ∃ h1, h1 = (o_Slots_ahead h (xs (i + 1))).2 := ⟨_, rfl⟩
  have f1 : ∀ c j, 51 ≤ c → h1 c j = h c j := fun c j q => by rw [eh1]; exact fr_Slots_ahead c j (by omega) (by omega) (by omega) (by omega) (by omega) (by omega) (by omega) (by omega) (by omega) (by omega) (by omega) (by omega) (by omega) (by omega)
  have H1 : zREL k h h1 (g 0) (g 1) := zl_mid f1 H
  rw [← eh1]
  have N := zl_pm H1
  refine zr_aload_n K (a0 := X.2.2.2.2 51) d_law_458 rfl ?_
  refine zl_arg K S (j := 1) (jv := 1) rfl rfl (by omega) hL rfl rfl d_law_459 d_law_460 d_law_461 d_law_462 d_law_463 ?_
  refine zr_callVi (As := [.int (xs (i + 1))]) (st := [.int ((o_Slots_ahead h (xs (i + 1))).1)]) (c := 51) K (c_Model_ahead X h1 g (xs (i + 1)) N.2.1 N.2.2.2.2.2.1) k_Model_ahead (zU_in (i := 1042) (by decide +kernel) rfl) (zU_in (i := 1043) (by decide +kernel) rfl) (zU_in (i := 1044) (by decide +kernel) rfl) (by decide) (zC_Model X _ _) rfl rfl (by decide) rfl (Nat.le_of_ble_eq_true rfl) d_law_464 ?_
  have E := op_ahead H1 (Nat.lt_of_le_of_lt (Nat.le_add_right _ _) hk) (xs (i + 1))
  rw [← eh1] at E
  refine zr_icmp_eq K 967 d_law_467 (by decide) (fun _ => kk _ g (zl_end (fun c j q => fr_Model_ahead c j (by omega) (by omega) (by omega) (by omega) (by omega) (by omega) (by omega)) E.2)) (fun q => absurd E.1 q)
end
