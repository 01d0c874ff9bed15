theorem vk_S_congr {N : Nat} {len : List Nat} {byt : List (List Int32)} {f g f' g' : Nat → Nat} {A : Nat → Prop} {U : State} {H : Heap} (h : vk_S N len byt f g A U H) (hf : ∀ i, i < N → f' i = f i) (hg : ∀ i, i < N → g' i = g i) : vk_S N len byt f' g' A U H := by
  refine ⟨fun i hi => ?_, fun i j hi hj hij => h.2 i j hi hj (by rw [← hf i hi, ← hf j hj]; exact hij)⟩
  have h1 := h.1 i hi
  rw [hf i hi, hg i hi]
  exact h1
def csF (cB cI cJ cZ cT t9 : Nat) (adK adV : Nat → Nat) : Nat → ClassId := fun k => if k = 12 then cB else if k = 13 then cI else if k = 14 then cJ else if k = 15 then cZ else if k = 16 then cT else if k = 99 then t9 else if k < 200 then adK (k - 100) else adV (k - 200)
theorem arrK {args : Array Value} {s : State} {ty : FieldType} (h : (Cond.arrayClass ty).before args s = true) : ∃ c : ClassId, ArrOfT s c ty ∧ s.vm.findClass ("[" ++ ty.toString) = some c := by
  obtain ⟨c, k, comp, h1, h2, h3⟩ := Cond.arrayClass_spec h
  exact ⟨c, fun n z => ⟨fun k h => (by cases h), k, h2, comp, h3⟩, h1⟩
theorem arrT {args : Array Value} {s : State} {C : String} (h : (Cond.arrayOver (.object C)).before args s = true) : ∃ c : ClassId, ArrOfT s c (.object C) ∧ va_RA s c (.object C) := by
  obtain ⟨comp, c, k, h1, h2, h3, h4, h5⟩ := Cond.arrayOver_spec h
  exact ⟨c, fun n z => ⟨fun k h => (by cases h), k, h3, comp, h4⟩, k, comp, h3, h4, h1, h5⟩
def flatA : Cond → List Cond → List Cond
  | .and a b, acc => flatA a (flatA b acc)
  | c, acc => c :: acc
theorem flatA_eq (T : Cond) : ∀ acc, flatA T acc = flatC T ++ acc := by
  induction T with
  | and a b iha ihb =>
    intro acc
    show flatA a (flatA b acc) = (flatC a ++ flatC b) ++ acc
    rw [iha, ihb, List.append_assoc]
  | _ => intro acc; rfl
def nvA : List Cond := flatA (Jvm.Cond.and given_1 narrow_1) []
def nvF : List Cond := flatC (Jvm.Cond.and given_1 narrow_1)
theorem nv_at {k : Nat} {c : Cond} (h : nvA[k]? = some c) : c ∈ nvF := by
  have h1 : c ∈ nvA := List.mem_of_getElem? h
  unfold nvA at h1
  rw [flatA_eq, List.append_nil] at h1
  exact h1
theorem nx_tbl : ∀ w ∈ nxW, w ∈ lw_tbl := by decide +kernel
def exP : List (List Nat) := [[0, 44, 59, 74], [30, 0, 61, 76], [31, 46, 0, 77], [32, 47, 62, 0]]
theorem nc_p : ∀ i, i < 4 → ∀ j, j < 4 → i ≠ j → nvA[(exP.getD i []).getD j 0]? = some (Cond.not (.castable (exW.getD i "") (exW.getD j ""))) := by decide +kernel
theorem nc_tbl : ∀ x ∈ exW, ∀ z ∈ exW, x ≠ z → Cond.not (.castable x z) ∈ nvF := by
  intro x hx z hz hn
  obtain ⟨i, hi, rfl⟩ := List.mem_iff_getElem.mp hx
  obtain ⟨j, hj, rfl⟩ := List.mem_iff_getElem.mp hz
  have h := nv_at (nc_p i hi j hj (fun e => hn (by subst e; rfl)))
  rw [List.getD_eq_getElem?_getD, List.getD_eq_getElem?_getD, List.getElem?_eq_getElem hi, List.getElem?_eq_getElem hj] at h
  exact h
theorem sr_tbl : ∀ q ∈ skW, Cond.stringRef q.1 q.2.1 q.2.2 ∈ lw_tbl := by decide +kernel
def skT (i : Nat) : Term := .string ((skW.getD i ("", 0, "")).1) ((skW.getD i ("", 0, "")).2.1)
def skPa : List Nat := [78, 195, 202, 214, 226, 240, 256, 271, 285, 301, 318, 336, 354, 378, 399, 422, 446, 472, 495, 520, 548, 575]
def skPb : List Nat := [79, 196, 203, 215, 227, 241, 257, 272, 286, 302, 319, 337, 355, 379, 400, 423, 447, 473, 496, 521, 549, 576]
def skPc : List Nat := [80, 197, 204, 216, 228, 242, 258, 273, 287, 303, 320, 338, 356, 380, 401, 424, 448, 474, 497, 522, 550, 577]
def skPd : List Nat := [81, 198, 205, 217, 229, 243, 259, 274, 288, 304, 321, 339, 357, 381, 402, 425, 449, 475, 498, 523, 551, 578]
def skPe : List (List Nat) := [[82, 83, 84, 85, 86, 87, 88, 89, 90, 91, 92, 93, 94, 95, 96, 97, 98, 99, 100, 101, 102, 103, 104, 105, 106, 107, 108, 109, 110, 111, 112, 113, 114, 115, 116, 117, 118, 119, 120, 121, 122, 123, 124, 125, 126, 127, 128, 129, 130, 131, 132, 133, 134, 135, 136, 137, 138, 139, 140, 141, 142, 143, 144, 145, 146, 147, 148, 149, 150, 151, 152, 153, 154, 155, 156, 157, 158, 159, 160, 161, 162, 163, 164, 165, 166, 167, 168, 169, 170, 171, 172, 173, 174, 175, 176, 177, 178, 179, 180, 181, 182, 183, 184, 185, 186, 187, 188, 189, 190, 191, 192, 193, 194], [199, 200], [206, 207, 208, 209, 210, 211], [218, 219, 220, 221, 222], [230, 231, 232, 233, 234, 235], [244, 245, 246, 247, 248, 249, 250], [260, 261, 262, 263, 264], [275, 276, 277], [289, 290, 291, 292], [305, 306, 307, 308], [322, 323, 324, 325], [340, 341, 342], [358, 359, 360, 361, 362, 363, 364, 365], [382, 383, 384, 385], [403, 404, 405, 406, 407], [426, 427, 428, 429, 430], [450, 451, 452, 453, 454, 455], [476, 477], [499, 500, 501], [524, 525, 526, 527, 528], [552, 553, 554], [579, 580]]
def skPf : List (List Nat) := [[9999, 201, 212, 223, 236, 251, 265, 278, 293, 309, 326, 343, 366, 386, 408, 431, 456, 478, 502, 529, 555, 581], [9999, 9999, 213, 224, 237, 252, 266, 279, 294, 310, 327, 344, 367, 387, 409, 432, 457, 479, 503, 530, 556, 582], [9999, 9999, 9999, 225, 238, 253, 267, 280, 295, 311, 328, 345, 368, 388, 410, 433, 458, 480, 504, 531, 557, 583], [9999, 9999, 9999, 9999, 239, 254, 268, 281, 296, 312, 329, 346, 369, 389, 411, 434, 459, 481, 505, 532, 558, 584], [9999, 9999, 9999, 9999, 9999, 255, 269, 282, 297, 313, 330, 347, 370, 390, 412, 435, 460, 482, 506, 533, 559, 585], [9999, 9999, 9999, 9999, 9999, 9999, 270, 283, 298, 314, 331, 348, 371, 391, 413, 436, 461, 483, 507, 534, 560, 586], [9999, 9999, 9999, 9999, 9999, 9999, 9999, 284, 299, 315, 332, 349, 372, 392, 414, 437, 462, 484, 508, 535, 561, 587], [9999, 9999, 9999, 9999, 9999, 9999, 9999, 9999, 300, 316, 333, 350, 373, 393, 415, 438, 463, 485, 509, 536, 562, 588], [9999, 9999, 9999, 9999, 9999, 9999, 9999, 9999, 9999, 317, 334, 351, 374, 394, 416, 439, 464, 486, 510, 537, 563, 589], [9999, 9999, 9999, 9999, 9999, 9999, 9999, 9999, 9999, 9999, 335, 352, 375, 395, 417, 440, 465, 487, 511, 538, 564, 590], [9999, 9999, 9999, 9999, 9999, 9999, 9999, 9999, 9999, 9999, 9999, 353, 376, 396, 418, 441, 466, 488, 512, 539, 565, 591], [9999, 9999, 9999, 9999, 9999, 9999, 9999, 9999, 9999, 9999, 9999, 9999, 377, 397, 419, 442, 467, 489, 513, 540, 566, 592], [9999, 9999, 9999, 9999, 9999, 9999, 9999, 9999, 9999, 9999, 9999, 9999, 9999, 398, 420, 443, 468, 490, 514, 541, 567, 593], [9999, 9999, 9999, 9999, 9999, 9999, 9999, 9999, 9999, 9999, 9999, 9999, 9999, 9999, 421, 444, 469, 491, 515, 542, 568, 594], [9999, 9999, 9999, 9999, 9999, 9999, 9999, 9999, 9999, 9999, 9999, 9999, 9999, 9999, 9999, 445, 470, 492, 516, 543, 569, 595], [9999, 9999, 9999, 9999, 9999, 9999, 9999, 9999, 9999, 9999, 9999, 9999, 9999, 9999, 9999, 9999, 471, 493, 517, 544, 570, 596], [9999, 9999, 9999, 9999, 9999, 9999, 9999, 9999, 9999, 9999, 9999, 9999, 9999, 9999, 9999, 9999, 9999, 494, 518, 545, 571, 597], [9999, 9999, 9999, 9999, 9999, 9999, 9999, 9999, 9999, 9999, 9999, 9999, 9999, 9999, 9999, 9999, 9999, 9999, 519, 546, 572, 598], [9999, 9999, 9999, 9999, 9999, 9999, 9999, 9999, 9999, 9999, 9999, 9999, 9999, 9999, 9999, 9999, 9999, 9999, 9999, 547, 573, 599], [9999, 9999, 9999, 9999, 9999, 9999, 9999, 9999, 9999, 9999, 9999, 9999, 9999, 9999, 9999, 9999, 9999, 9999, 9999, 9999, 574, 600], [9999, 9999, 9999, 9999, 9999, 9999, 9999, 9999, 9999, 9999, 9999, 9999, 9999, 9999, 9999, 9999, 9999, 9999, 9999, 9999, 9999, 601], [9999, 9999, 9999, 9999, 9999, 9999, 9999, 9999, 9999, 9999, 9999, 9999, 9999, 9999, 9999, 9999, 9999, 9999, 9999, 9999, 9999, 9999]]
theorem sk_a : ∀ i, i < 22 → Cond.exactly (skT i) "java/lang/String" ∈ nvF := fun i hi => nv_at ((show ∀ i, i < 22 → nvA[skPa.getD i 0]? = some (Cond.exactly (skT i) "java/lang/String") by decide +kernel) i hi)
theorem sk_b : ∀ i, i < 22 → Cond.eq (.field (skT i) "java/lang/String" "coder" "B") (.int 0) ∈ nvF := fun i hi => nv_at ((show ∀ i, i < 22 → nvA[skPb.getD i 0]? = some (Cond.eq (.field (skT i) "java/lang/String" "coder" "B") (.int 0)) by decide +kernel) i hi)
theorem sk_c : ∀ i, i < 22 → Cond.arrayOf (.field (skT i) "java/lang/String" "value" "[B") .byte ∈ nvF := fun i hi => nv_at ((show ∀ i, i < 22 → nvA[skPc.getD i 0]? = some (Cond.arrayOf (.field (skT i) "java/lang/String" "value" "[B") .byte) by decide +kernel) i hi)
theorem sk_d : ∀ i, i < 22 → Cond.eq (.length (.field (skT i) "java/lang/String" "value" "[B")) (.int (Int32.ofNat (skN.getD i 0))) ∈ nvF := fun i hi => nv_at ((show ∀ i, i < 22 → nvA[skPd.getD i 0]? = some (Cond.eq (.length (.field (skT i) "java/lang/String" "value" "[B")) (.int (Int32.ofNat (skN.getD i 0)))) by decide +kernel) i hi)
theorem sk_e : ∀ i, i < 22 → ∀ j, j < skN.getD i 0 → Cond.eq (.elem (.field (skT i) "java/lang/String" "value" "[B") (.int (Int32.ofNat j))) (.int ((skB.getD i []).getD j 0)) ∈ nvF := fun i hi j hj => nv_at ((show ∀ i, i < 22 → ∀ j, j < skN.getD i 0 → nvA[(skPe.getD i []).getD j 0]? = some (Cond.eq (.elem (.field (skT i) "java/lang/String" "value" "[B") (.int (Int32.ofNat j))) (.int ((skB.getD i []).getD j 0))) by decide +kernel) i hi j hj)
theorem sk_f0 : ∀ i, i < 22 → ∀ j, j < 22 → (skPf.getD i []).getD j 0 < 9999 → nvA[(skPf.getD i []).getD j 0]? = some (Cond.not (Cond.eq (skT i) (skT j))) := by decide +kernel
theorem sk_f1 : ∀ i, i < 22 → ∀ j, j < 22 → i ≠ j → (skPf.getD i []).getD j 0 < 9999 ∨ (skPf.getD j []).getD i 0 < 9999 := by decide +kernel
theorem sk_f (i : Nat) (hi : i < 22) (j : Nat) (hj : j < 22) (hn : i ≠ j) : Cond.not (Cond.eq (skT i) (skT j)) ∈ nvF ∨ Cond.not (Cond.eq (skT j) (skT i)) ∈ nvF :=
  (sk_f1 i hi j hj hn).imp (fun h => nv_at (sk_f0 i hi j hj h)) (fun h => nv_at (sk_f0 j hj i hi h))
theorem fos_e : ∀ j, j < 4 → Cond.eq (.elem (.static "HutRow" "FACTS_OF_SORT" "[I") (.int (Int32.ofNat j))) (.int (fosV.getD j 0)) ∈ nvF := fun j hj => nv_at ((show ∀ j, j < 4 → nvA[([14, 15, 16, 17] : List Nat).getD j 0]? = some (Cond.eq (.elem (.static "HutRow" "FACTS_OF_SORT" "[I") (.int (Int32.ofNat j))) (.int (fosV.getD j 0))) by decide +kernel) j hj)
