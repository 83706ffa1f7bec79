/-! The fixed world: 71 cells at addresses that are variables, their numbers in two functions: h (ints, by cell and place), g (longs). -/
abbrev zHp : Type := Nat → Nat → Int32
abbrev zLg : Type := Nat → Int64
/-- launch, classes and slots as the tables have them, the classes of int[] and boolean[], the addresses -/
abbrev zXT : Type := Launch × va_G × ClassId × ClassId × (Nat → Nat)
/-- program, env, room, state at the entry, method, arguments, below, method, code, cells and slots made so far -/
abbrev zGT : Type := Program × Env × Room × State × MethodId × Array Value × List Frame × Method × Code × Nat × Nat
abbrev zR (X : zXT) (c : Nat) : Value := .ref (X.2.2.2.2 c)
def zkind : Nat → Nat := fun c => ([6, 5, 8, 1, 8, 8, 8, 8, 8, 8, 8, 8, 8, 8, 8, 1, 8, 8, 8, 8, 8, 8, 8, 8, 8, 8, 8, 1, 8, 8, 8, 8, 8, 8, 8, 8, 8, 8, 8, 3, 8, 0, 4, 8, 4, 8, 2, 8, 8, 8, 8, 7, 8, 8, 8, 8, 8, 8, 8, 9, 8, 8, 8, 8, 8, 8, 8, 8, 8, 8, 8] : List Nat).getD c 10
def zlen : Nat → Nat := fun c => ([0, 0, 110, 0, 8, 8, 8, 8, 8, 8, 8, 8, 8, 8, 8, 0, 8, 8, 8, 8, 8, 8, 8, 8, 8, 8, 8, 0, 8, 8, 8, 8, 8, 8, 8, 8, 8, 8, 8, 0, 8, 0, 0, 350, 0, 50, 0, 6, 6, 6, 4, 0, 110, 8, 25, 25, 25, 350, 50, 2, 6, 6, 6, 8, 8, 8, 8, 8, 8, 8, 256] : List Nat).getD c 0
def zF_Acts (X : zXT) (c : Nat) (r : Nat → Int32) : List Value := [zR X (c + 1), .int (r 0), .int (r 1)]
def zF_Mesh (X : zXT) (c : Nat) (r : Nat → Int32) : List Value := [.int (r 0), .int (r 1), .int (r 2), zR X (c + 1), zR X (c + 2), zR X (c + 3), zR X (c + 4), zR X (c + 5), zR X (c + 6), zR X (c + 7), zR X (c + 8), zR X (c + 9), zR X (c + 10), zR X (c + 11)]
def zF_Obs (X : zXT) (c : Nat) (r : Nat → Int32) : List Value := [zR X (c + 1), zR X (c + 2), zR X (c + 3), .int (r 0)]
def zF_Planner (X : zXT) (c : Nat) : List Value := [zR X (c + 1)]
def zF_Shelf (X : zXT) (c : Nat) (r : Nat → Int32) : List Value := [.int (r 0), zR X (c + 1), .int (r 1)]
def zF_Text (X : zXT) (c : Nat) (r : Nat → Int32) : List Value := [zR X (c + 1), .int (r 0)]
def zF_Slots (X : zXT) (g : zLg) : List Value := [zR X 1, zR X 3, zR X 15, zR X 27, zR X 39, zR X 41, zR X 44, zR X 46, zR X 50, .long (g 0)]
def zF_Model (X : zXT) (g : zLg) (r : Nat → Int32) : List Value := [zR X 52, .int (r 0), .int (r 1), zR X 53, zR X 54, zR X 55, zR X 56, zR X 57, .int (r 2), .int (r 3), zR X 58, zR X 59, zR X 60, zR X 61, zR X 62, .int (r 4), .long (g 1), .int (r 5), zR X 63, zR X 64, zR X 65, .int (r 6), .int (r 7), .int (r 8), .int (r 9), zR X 66, zR X 67, zR X 68, .int (r 10), .int (r 11), zR X 69, zR X 70]
def zC (X : zXT) (g : zLg) (c : Nat) (r : Nat → Int32) : va_E := match zkind c with
  | 0 => .inr (0, zF_Acts X c r)
  | 1 => .inr (1, zF_Mesh X c r)
  | 2 => .inr (2, zF_Obs X c r)
  | 3 => .inr (3, zF_Planner X c)
  | 4 => .inr (4, zF_Shelf X c r)
  | 5 => .inr (5, zF_Text X c r)
  | 6 => .inr (6, zF_Slots X g)
  | 7 => .inr (7, zF_Model X g r)
  | 8 => .inl (X.2.2.1, zlen c, .inl r)
  | _ => .inl (X.2.2.2.1, zlen c, .inl r)
def zw (X : zXT) (h : zHp) (g : zLg) : va_W := (List.range 71).map fun c => (X.2.2.2.2 c, zC X g c (h c))
theorem zw_at (X : zXT) (h : zHp) (g : zLg) {c : Nat} (hc : c < 71) : (zw X h g)[c]? = some (X.2.2.2.2 c, zC X g c (h c)) := by
  simp [zw, hc]
/-- one place of one cell -/
def zup (h : zHp) (c k : Nat) (x : Int32) : zHp := fun c2 => if c2 = c then upd (h c) k x else h c2
def zupg (g : zLg) (k : Nat) (x : Int64) : zLg := fun j => if j = k then x else g j
/-- a row copied into another -/
def zcp (h : zHp) (c d sp dp n : Nat) : zHp := fun c2 => if c2 = d then va_cpy (h c) (h d) sp dp n else h c2
theorem zw_set (X : zXT) (h h2 : zHp) (g g2 : zLg) {c : Nat} {e : va_E} (he : zC X g2 c (h2 c) = e) (ho : ∀ d, d ≠ c → zC X g2 d (h2 d) = zC X g d (h d)) : (zw X h g).set c (X.2.2.2.2 c, e) = zw X h2 g2 := by
  apply List.ext_getElem?
  intro i
  by_cases hi : i = c
  · subst hi
    by_cases hl : i < 71
    · rw [List.getElem?_set_self (by simp [zw]; omega), zw_at X h2 g2 hl, he]
    · rw [List.getElem?_eq_none (by simp [zw]; omega), List.getElem?_eq_none (by simp [zw]; omega)]
  · rw [List.getElem?_set_ne (Ne.symm hi)]
    by_cases hl : i < 71
    · rw [zw_at X h g hl, zw_at X h2 g2 hl, ho i hi]
    · rw [List.getElem?_eq_none (by simp [zw]; omega), List.getElem?_eq_none (by simp [zw]; omega)]
theorem zup_ne {h : zHp} {c d k : Nat} {x : Int32} (hd : d ≠ c) : zup h c k x d = h d := if_neg hd
theorem zup_eq {h : zHp} {c k : Nat} {x : Int32} : zup h c k x c = upd (h c) k x := if_pos rfl
theorem zcp_ne {h : zHp} {c d e sp dp n : Nat} (hd : e ≠ d) : zcp h c d sp dp n e = h e := if_neg hd
theorem zcp_eq {h : zHp} {c d sp dp n : Nat} : zcp h c d sp dp n d = va_cpy (h c) (h d) sp dp n := if_pos rfl
theorem zw_up (X : zXT) (h : zHp) (g : zLg) {c k : Nat} {x : Int32} {e : va_E} (he : zC X g c (upd (h c) k x) = e) : (zw X h g).set c (X.2.2.2.2 c, e) = zw X (zup h c k x) g :=
  zw_set X h _ g g (by rw [zup_eq]; exact he) (fun d hd => by rw [zup_ne hd])
theorem zw_upg (X : zXT) (h : zHp) (g : zLg) {c k : Nat} {x : Int64} {e : va_E} (he : zC X (zupg g k x) c (h c) = e) (ho : ∀ d, d ≠ c → zC X (zupg g k x) d (h d) = zC X g d (h d)) : (zw X h g).set c (X.2.2.2.2 c, e) = zw X h (zupg g k x) :=
  zw_set X h _ g _ he ho
/-- the addresses are apart -/
def zInj (X : zXT) : Prop := ∀ i j, i < 71 → j < 71 → X.2.2.2.2 i = X.2.2.2.2 j → i = j
def zA (X : zXT) : Nat → Prop := fun q => ∃ c, c < 71 ∧ q = X.2.2.2.2 c
theorem zw_D {X : zXT} (hI : zInj X) (h : zHp) (g : zLg) : va_D (zA X) (zw X h g) := by
  have key : ∀ (i : Nat) (p : Nat × va_E), (zw X h g)[i]? = some p → i < 71 ∧ p.1 = X.2.2.2.2 i := by
    intro i p hp
    have hl : i < 71 := by
      have := (List.getElem?_eq_some_iff.mp hp).1
      simpa [zw] using this
    rw [zw_at X h g hl] at hp
    cases hp
    exact ⟨hl, rfl⟩
  refine ⟨fun i j p q hi hj hpq => ?_, fun k q hk => ?_⟩
  · obtain ⟨h1, e1⟩ := key i p hi
    obtain ⟨h2, e2⟩ := key j q hj
    exact hI i j h1 h2 (by rw [← e1, ← e2]; exact hpq)
  · obtain ⟨h1, e1⟩ := key k q hk
    exact ⟨k, h1, e1⟩
-- the classes
def zN_Acts : String := "PeriodSlots$Acts"
def zN_Mesh : String := "PeriodSlots$Mesh"
def zN_Obs : String := "PeriodSlots$Observations"
def zN_Planner : String := "PeriodSlots$Planner"
def zN_Shelf : String := "PeriodSlots$Shelf"
def zN_Text : String := "PeriodSlots$Text"
def zN_Slots : String := "PeriodSlots"
def zN_Model : String := "PeriodSlotsModel"
def zT_Acts : u_T := fun k => match k with
  | 0 => ("PeriodSlots$Acts", "before", "LPeriodSlots$Shelf;", true)
  | 1 => ("PeriodSlots$Acts", "newest", "I", false)
  | _ => ("PeriodSlots$Acts", "size", "I", false)
def zY_Acts : Nat → FieldType := fun k => match k with
  | 0 => .object "PeriodSlots$Shelf"
  | 1 => .int
  | _ => .int
theorem zY_Acts_ok : ∀ k, k < 3 → parseFieldDescriptor (zT_Acts k).2.2.1 = some (zY_Acts k) := by decide +kernel
theorem zT_Acts_nm : ∀ a, a < 3 → ∀ b, b < 3 → a ≠ b → (zT_Acts a).2.1 ≠ (zT_Acts b).2.1 := by decide +kernel
def zT_Mesh : u_T := fun k => match k with
  | 0 => ("PeriodSlots$Mesh", "count", "I", false)
  | 1 => ("PeriodSlots$Mesh", "roundNumber", "I", false)
  | 2 => ("PeriodSlots$Mesh", "gainfulRounds", "I", false)
  | 3 => ("PeriodSlots$Mesh", "periods", "[I", true)
  | 4 => ("PeriodSlots$Mesh", "links", "[I", true)
  | 5 => ("PeriodSlots$Mesh", "offsets", "[I", true)
  | 6 => ("PeriodSlots$Mesh", "olds", "[I", true)
  | 7 => ("PeriodSlots$Mesh", "patterns", "[I", true)
  | 8 => ("PeriodSlots$Mesh", "near", "[I", true)
  | 9 => ("PeriodSlots$Mesh", "priorities", "[I", true)
  | 10 => ("PeriodSlots$Mesh", "nearAbove", "[I", true)
  | 11 => ("PeriodSlots$Mesh", "ticks", "[I", true)
  | 12 => ("PeriodSlots$Mesh", "occupied", "[I", true)
  | _ => ("PeriodSlots$Mesh", "next", "[I", true)
def zY_Mesh : Nat → FieldType := fun k => match k with
  | 0 => .int
  | 1 => .int
  | 2 => .int
  | 3 => .array .int
  | 4 => .array .int
  | 5 => .array .int
  | 6 => .array .int
  | 7 => .array .int
  | 8 => .array .int
  | 9 => .array .int
  | 10 => .array .int
  | 11 => .array .int
  | 12 => .array .int
  | _ => .array .int
theorem zY_Mesh_ok : ∀ k, k < 14 → parseFieldDescriptor (zT_Mesh k).2.2.1 = some (zY_Mesh k) := by decide +kernel
theorem zT_Mesh_nm : ∀ a, a < 14 → ∀ b, b < 14 → a ≠ b → (zT_Mesh a).2.1 ≠ (zT_Mesh b).2.1 := by decide +kernel
def zT_Obs : u_T := fun k => match k with
  | 0 => ("PeriodSlots$Observations", "stations", "[I", true)
  | 1 => ("PeriodSlots$Observations", "ticks", "[I", true)
  | 2 => ("PeriodSlots$Observations", "sights", "[I", true)
  | _ => ("PeriodSlots$Observations", "size", "I", false)
def zY_Obs : Nat → FieldType := fun k => match k with
  | 0 => .array .int
  | 1 => .array .int
  | 2 => .array .int
  | _ => .int
theorem zY_Obs_ok : ∀ k, k < 4 → parseFieldDescriptor (zT_Obs k).2.2.1 = some (zY_Obs k) := by decide +kernel
theorem zT_Obs_nm : ∀ a, a < 4 → ∀ b, b < 4 → a ≠ b → (zT_Obs a).2.1 ≠ (zT_Obs b).2.1 := by decide +kernel
def zT_Planner : u_T := fun k => match k with
  | _ => ("PeriodSlots$Planner", "offsets", "[I", true)
def zY_Planner : Nat → FieldType := fun k => match k with
  | _ => .array .int
theorem zY_Planner_ok : ∀ k, k < 1 → parseFieldDescriptor (zT_Planner k).2.2.1 = some (zY_Planner k) := by decide +kernel
theorem zT_Planner_nm : ∀ a, a < 1 → ∀ b, b < 1 → a ≠ b → (zT_Planner a).2.1 ≠ (zT_Planner b).2.1 := by decide +kernel
def zT_Shelf : u_T := fun k => match k with
  | 0 => ("PeriodSlots$Shelf", "rows", "I", true)
  | 1 => ("PeriodSlots$Shelf", "cells", "[I", true)
  | _ => ("PeriodSlots$Shelf", "filled", "I", false)
def zY_Shelf : Nat → FieldType := fun k => match k with
  | 0 => .int
  | 1 => .array .int
  | _ => .int
theorem zY_Shelf_ok : ∀ k, k < 3 → parseFieldDescriptor (zT_Shelf k).2.2.1 = some (zY_Shelf k) := by decide +kernel
theorem zT_Shelf_nm : ∀ a, a < 3 → ∀ b, b < 3 → a ≠ b → (zT_Shelf a).2.1 ≠ (zT_Shelf b).2.1 := by decide +kernel
def zT_Text : u_T := fun k => match k with
  | 0 => ("PeriodSlots$Text", "bytes", "[I", true)
  | _ => ("PeriodSlots$Text", "length", "I", false)
def zY_Text : Nat → FieldType := fun k => match k with
  | 0 => .array .int
  | _ => .int
theorem zY_Text_ok : ∀ k, k < 2 → parseFieldDescriptor (zT_Text k).2.2.1 = some (zY_Text k) := by decide +kernel
theorem zT_Text_nm : ∀ a, a < 2 → ∀ b, b < 2 → a ≠ b → (zT_Text a).2.1 ≠ (zT_Text b).2.1 := by decide +kernel
def zT_Slots : u_T := fun k => match k with
  | 0 => ("PeriodSlots", "text", "LPeriodSlots$Text;", true)
  | 1 => ("PeriodSlots", "mesh", "LPeriodSlots$Mesh;", true)
  | 2 => ("PeriodSlots", "draft", "LPeriodSlots$Mesh;", true)
  | 3 => ("PeriodSlots", "trial", "LPeriodSlots$Mesh;", true)
  | 4 => ("PeriodSlots", "planner", "LPeriodSlots$Planner;", true)
  | 5 => ("PeriodSlots", "acts", "LPeriodSlots$Acts;", true)
  | 6 => ("PeriodSlots", "slots", "LPeriodSlots$Shelf;", true)
  | 7 => ("PeriodSlots", "observations", "LPeriodSlots$Observations;", true)
  | 8 => ("PeriodSlots", "statements", "[I", true)
  | _ => ("PeriodSlots", "chance", "J", false)
def zY_Slots : Nat → FieldType := fun k => match k with
  | 0 => .object "PeriodSlots$Text"
  | 1 => .object "PeriodSlots$Mesh"
  | 2 => .object "PeriodSlots$Mesh"
  | 3 => .object "PeriodSlots$Mesh"
  | 4 => .object "PeriodSlots$Planner"
  | 5 => .object "PeriodSlots$Acts"
  | 6 => .object "PeriodSlots$Shelf"
  | 7 => .object "PeriodSlots$Observations"
  | 8 => .array .int
  | _ => .long
theorem zY_Slots_ok : ∀ k, k < 10 → parseFieldDescriptor (zT_Slots k).2.2.1 = some (zY_Slots k) := by decide +kernel
theorem zT_Slots_nm : ∀ a, a < 10 → ∀ b, b < 10 → a ≠ b → (zT_Slots a).2.1 ≠ (zT_Slots b).2.1 := by decide +kernel
def zT_Model : u_T := fun k => match k with
  | 0 => ("PeriodSlotsModel", "text", "[I", true)
  | 1 => ("PeriodSlotsModel", "length", "I", false)
  | 2 => ("PeriodSlotsModel", "stations", "I", false)
  | 3 => ("PeriodSlotsModel", "period", "[I", true)
  | 4 => ("PeriodSlotsModel", "now", "[I", true)
  | 5 => ("PeriodSlotsModel", "trial", "[I", true)
  | 6 => ("PeriodSlotsModel", "spare", "[I", true)
  | 7 => ("PeriodSlotsModel", "diary", "[I", true)
  | 8 => ("PeriodSlotsModel", "doings", "I", false)
  | 9 => ("PeriodSlotsModel", "next", "I", false)
  | 10 => ("PeriodSlotsModel", "kept", "[I", true)
  | 11 => ("PeriodSlotsModel", "isKept", "[Z", true)
  | 12 => ("PeriodSlotsModel", "seenBy", "[I", true)
  | 13 => ("PeriodSlotsModel", "seenTick", "[I", true)
  | 14 => ("PeriodSlotsModel", "seenWas", "[I", true)
  | 15 => ("PeriodSlotsModel", "seen", "I", false)
  | 16 => ("PeriodSlotsModel", "seed", "J", false)
  | 17 => ("PeriodSlotsModel", "readStations", "I", false)
  | 18 => ("PeriodSlotsModel", "readPeriod", "[I", true)
  | 19 => ("PeriodSlotsModel", "readOffset", "[I", true)
  | 20 => ("PeriodSlotsModel", "readLinks", "[I", true)
  | 21 => ("PeriodSlotsModel", "part", "I", false)
  | 22 => ("PeriodSlotsModel", "place", "I", false)
  | 23 => ("PeriodSlotsModel", "readFirst", "I", false)
  | 24 => ("PeriodSlotsModel", "on", "I", false)
  | 25 => ("PeriodSlotsModel", "near", "[I", true)
  | 26 => ("PeriodSlotsModel", "moved", "[I", true)
  | 27 => ("PeriodSlotsModel", "movedOld", "[I", true)
  | 28 => ("PeriodSlotsModel", "moves", "Z", false)
  | 29 => ("PeriodSlotsModel", "movingRounds", "I", false)
  | 30 => ("PeriodSlotsModel", "planned", "[I", true)
  | _ => ("PeriodSlotsModel", "worth", "[I", true)
def zY_Model : Nat → FieldType := fun k => match k with
  | 0 => .array .int
  | 1 => .int
  | 2 => .int
  | 3 => .array .int
  | 4 => .array .int
  | 5 => .array .int
  | 6 => .array .int
  | 7 => .array .int
  | 8 => .int
  | 9 => .int
  | 10 => .array .int
  | 11 => .array .boolean
  | 12 => .array .int
  | 13 => .array .int
  | 14 => .array .int
  | 15 => .int
  | 16 => .long
  | 17 => .int
  | 18 => .array .int
  | 19 => .array .int
  | 20 => .array .int
  | 21 => .int
  | 22 => .int
  | 23 => .int
  | 24 => .int
  | 25 => .array .int
  | 26 => .array .int
  | 27 => .array .int
  | 28 => .boolean
  | 29 => .int
  | 30 => .array .int
  | _ => .array .int
theorem zY_Model_ok : ∀ k, k < 32 → parseFieldDescriptor (zT_Model k).2.2.1 = some (zY_Model k) := by decide +kernel
theorem zT_Model_nm : ∀ a, a < 32 → ∀ b, b < 32 → a ≠ b → (zT_Model a).2.1 ≠ (zT_Model b).2.1 := by decide +kernel
abbrev zcl : List vw_C := [(zN_Acts, zT_Acts, 3), (zN_Mesh, zT_Mesh, 14), (zN_Obs, zT_Obs, 4), (zN_Planner, zT_Planner, 1), (zN_Shelf, zT_Shelf, 3), (zN_Text, zT_Text, 2), (zN_Slots, zT_Slots, 10), (zN_Model, zT_Model, 32)]
/-- the words that every method may use -/
def zU : List Cond := lw_tbl.filter goodWord
theorem zU_in {i : Nat} {w : Cond} (hi : lw_tbl[i]? = some w) (hw : goodWord w = true) : w ∈ zU := List.mem_filter.mpr ⟨List.mem_of_getElem? hi, hw⟩
theorem zU_good (c : Cond) (hc : c ∈ zU) (d : Cond) : GoodIn (d :: zU) (c :: zU) := by
  intro w hw
  have h1 : w ∈ zU := by
    rcases List.mem_cons.mp hw with rfl | h
    · exact hc
    · exact h
  exact ⟨List.mem_cons_of_mem _ h1, good_of_word (List.mem_filter.mp h1).2⟩
theorem zU_good' (c : Cond) (hc : c ∈ zU) : GoodIn zU (c :: zU) := by
  intro w hw
  have h1 : w ∈ zU := by
    rcases List.mem_cons.mp hw with rfl | h
    · exact hc
    · exact h
  exact ⟨h1, good_of_word (List.mem_filter.mp h1).2⟩
/-- calls of a private method of a nest mate -/
def zNest : List Cond := [Cond.methodLinkNest "PeriodSlots" (9 : Nat) ({ cls := "PeriodSlots$Text", name := "<init>", desc := "()V" } : Jvm.MethodName) "PeriodSlots", Cond.methodLinkNest "PeriodSlots" (18 : Nat) ({ cls := "PeriodSlots$Mesh", name := "<init>", desc := "()V" } : Jvm.MethodName) "PeriodSlots", Cond.methodLinkNest "PeriodSlots" (31 : Nat) ({ cls := "PeriodSlots$Planner", name := "<init>", desc := "()V" } : Jvm.MethodName) "PeriodSlots", Cond.methodLinkNest "PeriodSlots" (38 : Nat) ({ cls := "PeriodSlots$Acts", name := "<init>", desc := "()V" } : Jvm.MethodName) "PeriodSlots", Cond.methodLinkNest "PeriodSlots" (54 : Nat) ({ cls := "PeriodSlots$Observations", name := "<init>", desc := "()V" } : Jvm.MethodName) "PeriodSlots", Cond.methodLinkNest "PeriodSlots$Mesh" (89 : Nat) ({ cls := "PeriodSlots", name := "has", desc := "(II)Z" } : Jvm.MethodName) "PeriodSlots", Cond.methodLinkNest "PeriodSlots$Text" (56 : Nat) ({ cls := "PeriodSlots", name := "has", desc := "(II)Z" } : Jvm.MethodName) "PeriodSlots", Cond.methodLinkNest "PeriodSlots$Mesh" (143 : Nat) ({ cls := "PeriodSlots", name := "lowestOrNone", desc := "(I)I" } : Jvm.MethodName) "PeriodSlots", Cond.methodLinkNest "PeriodSlots$Shelf" (28 : Nat) ({ cls := "PeriodSlots", name := "has", desc := "(II)Z" } : Jvm.MethodName) "PeriodSlots", Cond.methodLinkNest "PeriodSlots$Planner" (42 : Nat) ({ cls := "PeriodSlots", name := "has", desc := "(II)Z" } : Jvm.MethodName) "PeriodSlots"]
theorem zNest_warm {s U : State} (hW : s.WarmedH U.vm) (h : ∀ w ∈ zNest, va_Nw w s) : ∀ w ∈ zNest, va_Nw w U := by
  intro w hw
  have h1 := h w hw
  simp only [zNest, List.mem_cons, List.not_mem_nil, or_false] at hw
  rcases hw with rfl | rfl | rfl | rfl | rfl | rfl | rfl | rfl | rfl | rfl <;> exact va_Nw.warmM hW h1
theorem zNest_same {u U : State} (hv : u.vm = U.vm) (h : ∀ w ∈ zNest, va_Nw w u) : ∀ w ∈ zNest, va_Nw w U := by
  intro w hw
  have h1 := h w hw
  simp only [zNest, List.mem_cons, List.not_mem_nil, or_false] at hw
  rcases hw with rfl | rfl | rfl | rfl | rfl | rfl | rfl | rfl | rfl | rfl <;> exact va_Nw.same rfl hv h1
abbrev ztys (X : zXT) : List (ClassId × FieldType) := [(X.2.2.1, .int), (X.2.2.2.1, .boolean)]
/-- the picture of a state -/
def zSt (X : zXT) (h : zHp) (g : zLg) (U : State) : Prop := va_P X.2.1 zcl (zw X h g) U.heap
/-- what the tables say, and stays -/
def zKn (X : zXT) (U : State) : Prop := va_K X.2.1 zcl (ztys X) U ∧ zInj X ∧ ∀ w ∈ zNest, va_Nw w U
theorem zKn_warm {X : zXT} {s U : State} (hW : s.WarmedH U.vm) (h : zKn X s) : zKn X U := ⟨va_K.moved hW.alike h.1, h.2.1, zNest_warm hW h.2.2⟩
/-- a method: its name, bytes, locals, what it returns -/
abbrev zMT : Type := MethodName × ByteArray × Nat × Option FieldType
def zrm (d : Nat) : Room := { frames := d, cells := 0, slots := 0, locals := 64 * d }
abbrev zws (M : zMT) : List Cond := Cond.code M.1 M.2.1 M.2.2.1 M.2.2.2 :: zU
def zQD (X : zXT) (o : Option Value) (h : zHp) (g : zLg) : Array Value → State → Outcome → State → Prop := fun _ st oc t => (oc = .returned o ∧ zSt X h g t) ∧ va_F (zA X) st t
/-- the contract: from the numbers h, g, with these arguments, the method returns o, and the numbers are h2, g2 -/
def zDi (X : zXT) (M : zMT) (d : Nat) (av : List Value) (h : zHp) (g : zLg) (o : Option Value) (h2 : zHp) (g2 : zLg) : Prop :=
  Met X.1 M.1 (zws M) (zrm d) (va_Pc av (fun U => zSt X h g U ∧ zKn X U)) (zQD X o h2 g2) 0 0 (zA X)
-- the places of the context
abbrev zGp (Γ : zGT) : Program := Γ.1
abbrev zGe (Γ : zGT) : Env := Γ.2.1
abbrev zGR (Γ : zGT) : Room := Γ.2.2.1
abbrev zGs (Γ : zGT) : State := Γ.2.2.2.1
abbrev zGm (Γ : zGT) : MethodId := Γ.2.2.2.2.1
abbrev zGa (Γ : zGT) : Array Value := Γ.2.2.2.2.2.1
abbrev zGb (Γ : zGT) : List Frame := Γ.2.2.2.2.2.2.1
abbrev zGM (Γ : zGT) : Method := Γ.2.2.2.2.2.2.2.1
abbrev zGc (Γ : zGT) : Code := Γ.2.2.2.2.2.2.2.2.1
abbrev zGkc (Γ : zGT) : Nat := Γ.2.2.2.2.2.2.2.2.2.1
abbrev zGks (Γ : zGT) : Nat := Γ.2.2.2.2.2.2.2.2.2.2
def zasc : Nat → List (Option Value) → List (Nat × Value)
  | _, [] => []
  | k, none :: l => zasc (k + 1) l
  | k, some v :: l => (k, v) :: zasc (k + 1) l
abbrev zI (x : Int32) : Option Value := some (.int x)
abbrev zL (x : Int64) : Option Value := some (.long x)
abbrev zO (X : zXT) (c : Nat) : Option Value := some (zR X c)
/-- the machine in this method at pc, with these locals and stack, with the numbers h, g -/
def zV (X : zXT) (Γ : zGT) (Q : State → Prop) (pc : Nat) (lv : List (Option Value)) (st : List Value) (h : zHp) (g : zLg) : Prop :=
  ∀ (H : Heap) (locs : List Loc) (ls : Array Slot), va_P X.2.1 zcl (zw X h g) H → va_S (zA X) (zGs Γ).heap H locs → lv_has ls lv.length (zasc 0 lv) →
    W (zGp Γ) X.1 (zGe Γ) (zGR Γ) (zGs Γ) (zGm Γ) (zGa Γ) (zGb Γ) (zGM Γ) (zGc Γ) H locs (zGkc Γ) (zGks Γ) Q (F0 (zGm Γ) pc ls st)
/-- what stands fast in a method -/
def zOk (X : zXT) (Γ : zGT) (cc : ByteArray) (own : String) (nL d : Nat) (rt : Option FieldType) : Prop :=
  (zGp Γ).tables.exec = Jvm.exec ∧ (zGc Γ).code = cc ∧ (zGc Γ).maxLocals = nL ∧ (zGs Γ).vm.findClass own = some (zGm Γ).cls ∧ (∀ w ∈ zU, w.before (zGa Γ) (zGs Γ) = true) ∧ zKn X (zGs Γ) ∧ (d ≤ (zGR Γ).frames ∧ 64 * d ≤ (zGR Γ).locals ∧ zGkc Γ ≤ (zGR Γ).cells ∧ zGks Γ ≤ (zGR Γ).slots) ∧ (zGM Γ).sig.returnType = rt ∧ (zGM Γ).locks = false
def zTQ (X : zXT) (Γ : zGT) (o : Option Value) (h : zHp) (g : zLg) : State → Prop := MQ (zGb Γ) (zQD X o h g) (zGa Γ) (zGs Γ) (zGkc Γ) (zGks Γ) (zA X)
