theorem goodIn_r {big : List Cond} (ws : List Cond) (ps : List Nat) (hp : ws = ps.filterMap (fun i => big[i]?)) (h : ws.all goodWord = true) : GoodIn big ws := by
  intro w hw
  have h1 := List.all_eq_true.mp h w hw
  rw [hp] at hw
  obtain ⟨i, -, hi⟩ := List.mem_filterMap.mp hw
  have hm : w ∈ big := by first | exact List.mem_of_getElem? hi | exact List.getElem?_mem hi
  exact ⟨hm, good_of_word h1⟩
def mm_wdE (mth : List mmT) (own : String) (e : mmE) : List Cond := mm_wds mth own e.2.1 e.2.2.2.1 e.2.2.2.2.1 e.2.2.2.2.2.1 e.2.2.2.2.2.2.1
def mm_okB (mth : List mmT) (nest : List Cond) (y : mmT) (e : mmE) : Bool := decide (decode y.2.1 e.1 = .ok (e.2.1, e.2.2.1)) && (mm_okI mth y.1.cls y.1.name y.2.2.2 y.2.2.1 e.1 e.2.1 e.2.2.1 e.2.2.2.1 e.2.2.2.2.1 e.2.2.2.2.2.1 e.2.2.2.2.2.2.1 e.2.2.2.2.2.2.2 && decide (∀ z ∈ mm_nwd mth y.1.cls e.2.1 e.2.2.2.1 e.2.2.2.2.1 e.2.2.2.2.2.1, z ∈ nest))
