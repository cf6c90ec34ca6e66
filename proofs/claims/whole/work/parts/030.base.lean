theorem i32_lt {x y : Int32} : x < y ↔ x.toInt < y.toInt := Int32.lt_iff_toInt_lt
theorem i32_le {x y : Int32} : x ≤ y ↔ x.toInt ≤ y.toInt := Int32.le_iff_toInt_le
theorem i32_eq {x y : Int32} : x = y ↔ x.toInt = y.toInt := Int32.toInt_inj.symm
theorem t32_m8 : (-8 : Int32).toInt = -8 := by decide
theorem t32_m2 : (-2 : Int32).toInt = -2 := by decide
theorem t32_m1 : (-1 : Int32).toInt = -1 := by decide
theorem t32_0 : (0 : Int32).toInt = 0 := by decide
theorem t32_1 : (1 : Int32).toInt = 1 := by decide
theorem t32_2 : (2 : Int32).toInt = 2 := by decide
theorem t32_3 : (3 : Int32).toInt = 3 := by decide
theorem t32_4 : (4 : Int32).toInt = 4 := by decide
theorem t32_5 : (5 : Int32).toInt = 5 := by decide
theorem t32_6 : (6 : Int32).toInt = 6 := by decide
theorem t32_7 : (7 : Int32).toInt = 7 := by decide
theorem t32_8 : (8 : Int32).toInt = 8 := by decide
theorem t32_9 : (9 : Int32).toInt = 9 := by decide
theorem t32_10 : (10 : Int32).toInt = 10 := by decide
theorem t32_15 : (15 : Int32).toInt = 15 := by decide
theorem t32_16 : (16 : Int32).toInt = 16 := by decide
theorem t32_20 : (20 : Int32).toInt = 20 := by decide
theorem t32_24 : (24 : Int32).toInt = 24 := by decide
theorem t32_25 : (25 : Int32).toInt = 25 := by decide
theorem t32_30 : (30 : Int32).toInt = 30 := by decide
theorem t32_31 : (31 : Int32).toInt = 31 := by decide
theorem t32_32 : (32 : Int32).toInt = 32 := by decide
theorem t32_33 : (33 : Int32).toInt = 33 := by decide
theorem t32_40 : (40 : Int32).toInt = 40 := by decide
theorem t32_48 : (48 : Int32).toInt = 48 := by decide
theorem t32_50 : (50 : Int32).toInt = 50 := by decide
theorem t32_56 : (56 : Int32).toInt = 56 := by decide
theorem t32_57 : (57 : Int32).toInt = 57 := by decide
theorem t32_59 : (59 : Int32).toInt = 59 := by decide
theorem t32_97 : (97 : Int32).toInt = 97 := by decide
theorem t32_99 : (99 : Int32).toInt = 99 := by decide
theorem t32_100 : (100 : Int32).toInt = 100 := by decide
theorem t32_122 : (122 : Int32).toInt = 122 := by decide
theorem t32_128 : (128 : Int32).toInt = 128 := by decide
theorem t32_255 : (255 : Int32).toInt = 255 := by decide
theorem t32_600 : (600 : Int32).toInt = 600 := by decide
theorem mmmax_f (x y : Int32) : x.toInt ≤ (if x < y then y else x).toInt ∧ y.toInt ≤ (if x < y then y else x).toInt ∧ ((if x < y then y else x).toInt = x.toInt ∨ (if x < y then y else x).toInt = y.toInt) := by
  by_cases h : x < y
  · rw [if_pos h]; rw [i32_lt] at h; omega
  · rw [if_neg h]; rw [i32_lt] at h; omega
theorem mmmin_f (x y : Int32) : (if y < x then y else x).toInt ≤ x.toInt ∧ (if y < x then y else x).toInt ≤ y.toInt ∧ ((if y < x then y else x).toInt = x.toInt ∨ (if y < x then y else x).toInt = y.toInt) := by
  by_cases h : y < x
  · rw [if_pos h]; rw [i32_lt] at h; omega
  · rw [if_neg h]; rw [i32_lt] at h; omega
theorem bmod_w (z : Int) : z.bmod 4294967296 = (z + 2147483648) % 4294967296 - 2147483648 := by
  rw [Int.bmod_def]
  split <;> omega
theorem i32_add (x y : Int32) : (x + y).toInt = (x.toInt + y.toInt + 2147483648) % 4294967296 - 2147483648 := by
  rw [Int32.toInt_add]; exact bmod_w _
theorem i32_sub (x y : Int32) : (x - y).toInt = (x.toInt - y.toInt + 2147483648) % 4294967296 - 2147483648 := by
  rw [Int32.toInt_sub]; exact bmod_w _
theorem i32_mul (x y : Int32) : (x * y).toInt = (x.toInt * y.toInt + 2147483648) % 4294967296 - 2147483648 := by
  rw [Int32.toInt_mul]; exact bmod_w _
theorem i32_addS {x y : Int32} (h1 : -2147483648 ≤ x.toInt + y.toInt) (h2 : x.toInt + y.toInt < 2147483648) : (x + y).toInt = x.toInt + y.toInt := by
  rw [i32_add, Int.emod_eq_of_lt (by omega) (by omega)]; omega
theorem i32_subS {x y : Int32} (h1 : -2147483648 ≤ x.toInt - y.toInt) (h2 : x.toInt - y.toInt < 2147483648) : (x - y).toInt = x.toInt - y.toInt := by
  rw [i32_sub, Int.emod_eq_of_lt (by omega) (by omega)]; omega
theorem i32_mulS {x y : Int32} (h1 : -2147483648 ≤ x.toInt * y.toInt) (h2 : x.toInt * y.toInt < 2147483648) : (x * y).toInt = x.toInt * y.toInt := by
  rw [i32_mul, Int.emod_eq_of_lt (by omega) (by omega)]; omega
theorem ipos {α : Type} {c : Prop} {inst : Decidable c} {a b r : α} (h : c) (hE : (@ite α c inst a b) = r) : a = r := by rw [if_pos h] at hE; exact hE
theorem ineg {α : Type} {c : Prop} {inst : Decidable c} {a b r : α} (h : ¬ c) (hE : (@ite α c inst a b) = r) : b = r := by rw [if_neg h] at hE; exact hE
def bnd2 {α0 α1 δ : Type} (p : α0 × α1) (k : α0 → α1 → δ) : δ := k p.1 p.2
theorem bnd2s {α0 α1 δ : Type} {p : α0 × α1} {k : α0 → α1 → δ} {x0 : α0} {x1 : α1} {r : δ} (hw : (x0, x1) = p) (hE : bnd2 p k = r) : k x0 x1 = r := by subst hw; exact hE
def bnd3 {α0 α1 α2 δ : Type} (p : α0 × α1 × α2) (k : α0 → α1 → α2 → δ) : δ := k p.1 p.2.1 p.2.2
theorem bnd3s {α0 α1 α2 δ : Type} {p : α0 × α1 × α2} {k : α0 → α1 → α2 → δ} {x0 : α0} {x1 : α1} {x2 : α2} {r : δ} (hw : (x0, x1, x2) = p) (hE : bnd3 p k = r) : k x0 x1 x2 = r := by subst hw; exact hE
def bnd4 {α0 α1 α2 α3 δ : Type} (p : α0 × α1 × α2 × α3) (k : α0 → α1 → α2 → α3 → δ) : δ := k p.1 p.2.1 p.2.2.1 p.2.2.2
theorem bnd4s {α0 α1 α2 α3 δ : Type} {p : α0 × α1 × α2 × α3} {k : α0 → α1 → α2 → α3 → δ} {x0 : α0} {x1 : α1} {x2 : α2} {x3 : α3} {r : δ} (hw : (x0, x1, x2, x3) = p) (hE : bnd4 p k = r) : k x0 x1 x2 x3 = r := by subst hw; exact hE
def bnd5 {α0 α1 α2 α3 α4 δ : Type} (p : α0 × α1 × α2 × α3 × α4) (k : α0 → α1 → α2 → α3 → α4 → δ) : δ := k p.1 p.2.1 p.2.2.1 p.2.2.2.1 p.2.2.2.2
theorem bnd5s {α0 α1 α2 α3 α4 δ : Type} {p : α0 × α1 × α2 × α3 × α4} {k : α0 → α1 → α2 → α3 → α4 → δ} {x0 : α0} {x1 : α1} {x2 : α2} {x3 : α3} {x4 : α4} {r : δ} (hw : (x0, x1, x2, x3, x4) = p) (hE : bnd5 p k = r) : k x0 x1 x2 x3 x4 = r := by subst hw; exact hE
def bnd6 {α0 α1 α2 α3 α4 α5 δ : Type} (p : α0 × α1 × α2 × α3 × α4 × α5) (k : α0 → α1 → α2 → α3 → α4 → α5 → δ) : δ := k p.1 p.2.1 p.2.2.1 p.2.2.2.1 p.2.2.2.2.1 p.2.2.2.2.2
theorem bnd6s {α0 α1 α2 α3 α4 α5 δ : Type} {p : α0 × α1 × α2 × α3 × α4 × α5} {k : α0 → α1 → α2 → α3 → α4 → α5 → δ} {x0 : α0} {x1 : α1} {x2 : α2} {x3 : α3} {x4 : α4} {x5 : α5} {r : δ} (hw : (x0, x1, x2, x3, x4, x5) = p) (hE : bnd6 p k = r) : k x0 x1 x2 x3 x4 x5 = r := by subst hw; exact hE
def bnd7 {α0 α1 α2 α3 α4 α5 α6 δ : Type} (p : α0 × α1 × α2 × α3 × α4 × α5 × α6) (k : α0 → α1 → α2 → α3 → α4 → α5 → α6 → δ) : δ := k p.1 p.2.1 p.2.2.1 p.2.2.2.1 p.2.2.2.2.1 p.2.2.2.2.2.1 p.2.2.2.2.2.2
theorem bnd7s {α0 α1 α2 α3 α4 α5 α6 δ : Type} {p : α0 × α1 × α2 × α3 × α4 × α5 × α6} {k : α0 → α1 → α2 → α3 → α4 → α5 → α6 → δ} {x0 : α0} {x1 : α1} {x2 : α2} {x3 : α3} {x4 : α4} {x5 : α5} {x6 : α6} {r : δ} (hw : (x0, x1, x2, x3, x4, x5, x6) = p) (hE : bnd7 p k = r) : k x0 x1 x2 x3 x4 x5 x6 = r := by subst hw; exact hE
def bnd8 {α0 α1 α2 α3 α4 α5 α6 α7 δ : Type} (p : α0 × α1 × α2 × α3 × α4 × α5 × α6 × α7) (k : α0 → α1 → α2 → α3 → α4 → α5 → α6 → α7 → δ) : δ := k p.1 p.2.1 p.2.2.1 p.2.2.2.1 p.2.2.2.2.1 p.2.2.2.2.2.1 p.2.2.2.2.2.2.1 p.2.2.2.2.2.2.2
theorem bnd8s {α0 α1 α2 α3 α4 α5 α6 α7 δ : Type} {p : α0 × α1 × α2 × α3 × α4 × α5 × α6 × α7} {k : α0 → α1 → α2 → α3 → α4 → α5 → α6 → α7 → δ} {x0 : α0} {x1 : α1} {x2 : α2} {x3 : α3} {x4 : α4} {x5 : α5} {x6 : α6} {x7 : α7} {r : δ} (hw : (x0, x1, x2, x3, x4, x5, x6, x7) = p) (hE : bnd8 p k = r) : k x0 x1 x2 x3 x4 x5 x6 x7 = r := by subst hw; exact hE
def bnd9 {α0 α1 α2 α3 α4 α5 α6 α7 α8 δ : Type} (p : α0 × α1 × α2 × α3 × α4 × α5 × α6 × α7 × α8) (k : α0 → α1 → α2 → α3 → α4 → α5 → α6 → α7 → α8 → δ) : δ := k p.1 p.2.1 p.2.2.1 p.2.2.2.1 p.2.2.2.2.1 p.2.2.2.2.2.1 p.2.2.2.2.2.2.1 p.2.2.2.2.2.2.2.1 p.2.2.2.2.2.2.2.2
theorem bnd9s {α0 α1 α2 α3 α4 α5 α6 α7 α8 δ : Type} {p : α0 × α1 × α2 × α3 × α4 × α5 × α6 × α7 × α8} {k : α0 → α1 → α2 → α3 → α4 → α5 → α6 → α7 → α8 → δ} {x0 : α0} {x1 : α1} {x2 : α2} {x3 : α3} {x4 : α4} {x5 : α5} {x6 : α6} {x7 : α7} {x8 : α8} {r : δ} (hw : (x0, x1, x2, x3, x4, x5, x6, x7, x8) = p) (hE : bnd9 p k = r) : k x0 x1 x2 x3 x4 x5 x6 x7 x8 = r := by subst hw; exact hE
theorem bool_nar {v : Int32} (h : v = 0 ∨ v = 1) : narrow .boolean (.int v) = .int v := by rcases h with rfl | rfl <;> rfl
theorem bool_fit {v : Int32} (h : v = 0 ∨ v = 1) : fits .boolean (.int v) = true := by rcases h with rfl | rfl <;> rfl
/-- the links to a nest mate's methods -/
def nestWs : List Cond := [.methodLinkNest RX5 102 yX6_holds "TalkDown", .methodLinkNest RX4 51 yX6_holds "TalkDown", .methodLinkNest RX4 47 yX6_greatestOf "TalkDown", .methodLinkNest RX0 46 yX6_greatestOf "TalkDown", .methodLinkNest RX0 71 yX6_holds "TalkDown", .methodLinkNest RX1 52 yX6_holds "TalkDown", .methodLinkNest RX1 65 yX6_isPairOfRoom "TalkDown"]
/-- the texts of the String constants: lengths, bytes -/
def lenS : List Nat := [6, 3, 6, 7, 4, 4, 4, 3, 6, 4, 4, 4, 5, 0, 5]
def bytS : List (List Int32) := [[102, 114, 105, 101, 110, 100], [104, 97, 115], [98, 114, 111, 107, 101, 110], [114, 101, 116, 114, 105, 101, 115], [109, 101, 110, 100], [98, 105, 110, 100], [109, 97, 114, 107], [112, 105, 110], [102, 111, 114, 98, 105, 100], [99, 111, 115, 116], [109, 117, 115, 116], [32, 104, 97, 115], [109, 101, 110, 100, 32], [], [99, 111, 115, 116, 32]]
/-- where they are named: owner, entry, text, place above -/
def refS : List (String × Nat × String × Nat) := [(RX2, 44, "friend", 0), (RX2, 98, "has", 1), (RX2, 53, "broken", 2), (RX2, 66, "retries", 3), (RX2, 71, "mend", 4), (RX2, 121, "bind", 5), (RX2, 123, "mark", 6), (RX2, 125, "pin", 7), (RX2, 76, "forbid", 8), (RX2, 81, "cost", 9), (RX2, 86, "must", 10), (RX5, 68, "friend", 0), (RX5, 70, " has", 11), (RX5, 34, "broken", 2), (RX5, 50, "retries", 3), (RX5, 76, "mend ", 12), (RX5, 78, "", 13), (RX5, 94, "bind", 5), (RX5, 96, "mark", 6), (RX5, 98, "pin", 7), (RX5, 100, "forbid", 8), (RX5, 86, "cost ", 14), (RX5, 92, "must", 10)]
/-- what is there beside the cells: links, String constants, two statics of the JDK -/
def ev (adK adV : Nat → Nat) (A : Nat → Prop) (U : State) (H : Heap) : Prop :=
  (∀ w ∈ nestWs, va_Nw w U) ∧ vk_S 15 lenS bytS adK adV A U H ∧ (∀ (k : Nat) (q : String × Nat × String × Nat), refS[k]? = some q → vk_R q.1 q.2.1 q.2.2.1 (adK q.2.2.2) U) ∧
  va_Z "java/lang/String" "COMPACT_STRINGS" "Z" (.int 1) A U H ∧ ∃ r : Option Nat, va_Z "jdk/internal/util/Preconditions" "SIOOBE_FORMATTER" "Ljava/util/function/BiFunction;" (va_rf r) A U H
theorem nest_form : ∀ w ∈ nestWs, ∃ (a : String) (i : Nat) (x : MethodName) (h : String), w = .methodLinkNest a i x h := by
  intro w hw
  simp only [nestWs, List.mem_cons, List.not_mem_nil, or_false] at hw
  rcases hw with rfl | rfl | rfl | rfl | rfl | rfl | rfl <;> exact ⟨_, _, _, _, rfl⟩
theorem ev.warm {adK adV : Nat → Nat} {A : Nat → Prop} {s U : State} {H : Heap} (hW : s.WarmedH U.vm) (h : ev adK adV A s H) : ev adK adV A U H := by
  obtain ⟨h1, h2, h3, h4, r, h5⟩ := h
  refine ⟨fun w hw => ?_, vk_S.moved hW.alike h2, fun k q hk => vk_R.warm hW (h3 k q hk), va_Z.moved hW.alike h4, r, va_Z.moved hW.alike h5⟩
  obtain ⟨a, i, x, hh, rfl⟩ := nest_form w hw
  exact va_Nw.warmM hW (h1 _ hw)
theorem ev.same {adK adV : Nat → Nat} {A : Nat → Prop} {s U : State} {H : Heap} (hv : s.vm = U.vm) (h : ev adK adV A s H) : ev adK adV A U H := by
  obtain ⟨h1, h2, h3, h4, r, h5⟩ := h
  have ha : s.vm.Alike U.vm := by rw [← hv]; exact Vm.Alike.refl _
  refine ⟨fun w hw => ?_, vk_S.moved ha h2, fun k q hk => vk_R.same hv.symm (h3 k q hk), va_Z.moved ha h4, r, va_Z.moved ha h5⟩
  obtain ⟨a, i, x, hh, rfl⟩ := nest_form w hw
  exact va_Nw.same rfl hv (h1 _ hw)
theorem ev.kept {adK adV : Nat → Nat} {A : Nat → Prop} {s : State} {H H1 : Heap} (hq : ∀ a : Nat, a < H.size → ¬ A a → H1[a]? = H[a]?) (h : ev adK adV A s H) : ev adK adV A s H1 := by
  obtain ⟨h1, h2, h3, h4, r, h5⟩ := h
  exact ⟨h1, h2.kept hq, h3, h4.kept hq, r, h5.kept hq⟩
theorem ev.narrow {adK adV : Nat → Nat} {A B : Nat → Prop} {s : State} {H : Heap} (hAB : ∀ q, B q → A q) (h : ev adK adV A s H) : ev adK adV B s H := by
  obtain ⟨h1, h2, h3, h4, r, h5⟩ := h
  exact ⟨h1, h2.narrow hAB, h3, h4.narrow hAB, r, h5.narrow hAB⟩
theorem ev.at_ {adK adV : Nat → Nat} {A B : Nat → Prop} {s : State} {H : Heap} {locs : List Loc} (h : ev adK adV A s s.heap) (hS : va_S A s.heap H locs) (hAB : ∀ q, B q → A q) : ∀ U : State, U.heap = H → s.WarmedH U.vm → ev adK adV B U U.heap := by
  intro U hU hW
  rw [hU]
  exact ((h.kept hS.2.1).narrow hAB).warm hW
/-- what a contract asks of the heap: the cells -/
def PB (D : va_G) (cl : List vw_C) (tys : List (ClassId × FieldType)) (ws : va_W) (sz : Nat) : State → Prop := fun U => U.heap.size = sz ∧ va_P D cl ws U.heap ∧ va_K D cl tys U ∧ va_D (fun _ => True) ws
def PE (D : va_G) (cl : List vw_C) (tys : List (ClassId × FieldType)) (ws : va_W) (sz : Nat) (adK adV : Nat → Nat) : State → Prop := fun U => PB D cl tys ws sz U ∧ ev adK adV (va_A ws sz) U U.heap
theorem pb_blind {av : List Value} {D : va_G} {cl : List vw_C} {tys : List (ClassId × FieldType)} {ws : va_W} {sz : Nat} : FrameBlind (va_Pc av (PB D cl tys ws sz)) := fun a U g mk q => by
  obtain ⟨q0, q1, qP, qK, qD⟩ := q
  exact ⟨q0, q1, qP, va_K.moved (u := U) (U := U.calling g mk a) (Vm.Alike.refl U.vm) qK, qD⟩
theorem pe_blind {av : List Value} {D : va_G} {cl : List vw_C} {tys : List (ClassId × FieldType)} {ws : va_W} {sz : Nat} {adK adV : Nat → Nat} : FrameBlind (va_Pc av (PE D cl tys ws sz adK adV)) := fun a U g mk q => by
  obtain ⟨q0, ⟨q1, qP, qK, qD⟩, qE⟩ := q
  exact ⟨q0, ⟨q1, qP, va_K.moved (u := U) (U := U.calling g mk a) (Vm.Alike.refl U.vm) qK, qD⟩, ev.same (s := U) (U := U.calling g mk a) rfl qE⟩
section PRE
variable {s : State} {H : Heap} {D : va_G} {cl : List vw_C} {tys : List (ClassId × FieldType)} {ws : va_W} {A B : Nat → Prop} {As : List Value} {adK adV : Nat → Nat}
theorem pre_S (hK : va_K D cl tys s) (hP : va_P D cl ws H) (hD : va_D A ws) : PreS s H (va_Pc As (PB D cl tys ws H.size)) As :=
  ⟨pb_blind, fun U hU hW => ⟨rfl, by rw [hU], by rw [hU]; exact hP, va_K.moved hW.alike hK, hD.weaken (fun _ _ _ _ => trivial)⟩⟩
theorem pre_SE (hK : va_K D cl tys s) (hP : va_P D cl ws H) (hD : va_D A ws) (hE : ∀ U : State, U.heap = H → s.WarmedH U.vm → ev adK adV (va_A ws H.size) U U.heap) : PreS s H (va_Pc As (PE D cl tys ws H.size adK adV)) As :=
  ⟨pe_blind, fun U hU hW => ⟨rfl, ⟨by rw [hU], by rw [hU]; exact hP, va_K.moved hW.alike hK, hD.weaken (fun _ _ _ _ => trivial)⟩, hE U hU hW⟩⟩
theorem pre_V {a ci : Nat} {q : vw_C} {fs : List Value} (hK : va_K D cl tys s) (hP : va_P D cl ws H) (hD : va_D A ws) (hc : cl[ci]? = some q) (he : ws[0]? = some (a, .inr (ci, fs))) : PreV s H q.1 a (va_Pc (.ref a :: As) (PB D cl tys ws H.size)) As :=
  ⟨pb_blind, va_recv hK hP hc he, fun U hU hW => ⟨rfl, by rw [hU], by rw [hU]; exact hP, va_K.moved hW.alike hK, hD.weaken (fun _ _ _ _ => trivial)⟩⟩
theorem pre_VE {a ci : Nat} {q : vw_C} {fs : List Value} (hK : va_K D cl tys s) (hP : va_P D cl ws H) (hD : va_D A ws) (hc : cl[ci]? = some q) (he : ws[0]? = some (a, .inr (ci, fs))) (hE : ∀ U : State, U.heap = H → s.WarmedH U.vm → ev adK adV (va_A ws H.size) U U.heap) : PreV s H q.1 a (va_Pc (.ref a :: As) (PE D cl tys ws H.size adK adV)) As :=
  ⟨pe_blind, va_recv hK hP hc he, fun U hU hW => ⟨rfl, ⟨by rw [hU], by rw [hU]; exact hP, va_K.moved hW.alike hK, hD.weaken (fun _ _ _ _ => trivial)⟩, hE U hU hW⟩⟩
end PRE
theorem W.nameQ {p : Program} {l : Launch} {e : Env} {R : Room} {s : State} {m : MethodId} {args : Array Value} {below : List Frame} {meth : Method} {c : Code} {H : Heap} {locs : List Loc} {cells slots : Nat} {Q : State → Prop} {g : JFrame} (k : ∀ Q9 : State → Prop, Q9 = Q → W p l e R s m args below meth c H locs cells slots Q9 g) : W p l e R s m args below meth c H locs cells slots Q g := k Q rfl
theorem div5_f {x : Int32} (h0 : 0 ≤ x.toInt) (h1 : x.toInt < 25) : 0 ≤ (x / 5).toInt ∧ (x / 5).toInt < 5 ∧ 0 ≤ (x - x / 5 * 5).toInt ∧ (x - x / 5 * 5).toInt < 5 := by
  obtain ⟨k, hk, rfl⟩ : ∃ k : Nat, k < 25 ∧ x = nI k := by
    obtain ⟨j, hj, e⟩ := vp_in_of (x := x) (n := 25) (vp_in_iff.mpr ⟨h0, by omega⟩) (by decide)
    exact ⟨j, hj, e⟩
  have h : ∀ k, k < 25 → 0 ≤ (nI k / 5).toInt ∧ (nI k / 5).toInt < 5 ∧ 0 ≤ (nI k - nI k / 5 * 5).toInt ∧ (nI k - nI k / 5 * 5).toInt < 5 := by decide +kernel
  exact h k hk
theorem sw_none2 {x : Int32} {a b : Int} {oa ob d : Int} {u v : Int32} (h1 : ¬ x = u) (h2 : ¬ x = v) (hu : u.toInt = a) (hv : v.toInt = b) : Op.lookupswitch.offset [(a, oa), (b, ob)] d x.toInt = d := by
  have n1 : ¬ a = x.toInt := fun h => h1 (Int32.toInt_inj.mp (by rw [hu, h]))
  have n2 : ¬ b = x.toInt := fun h => h2 (Int32.toInt_inj.mp (by rw [hv, h]))
  rw [Op.lookupswitch.offset_cons, if_neg n1, Op.lookupswitch.offset_cons, if_neg n2, Op.lookupswitch.offset_nil]
theorem pairn_f {a b : Int32} (ha : 0 ≤ a.toInt ∧ a.toInt < 5) (hb : 0 ≤ b.toInt ∧ b.toInt < 5) : 0 ≤ ((5 : Int32) * a + b).toInt ∧ ((5 : Int32) * a + b).toInt < 25 := by
  have h1 : ((5 : Int32) * a).toInt = 5 * a.toInt := by
    rw [i32_mulS, t32_5] <;> rw [t32_5] <;> omega
  rw [i32_addS] <;> rw [h1] <;> omega
