theorem fr_wj {Y : fr_Y} {K : fr_K} {pc : Nat} {L L' : List (Option Value)} {M : fr_M} {st : List Value} (k : fr_V Y K pc L' st M) (h : fr_Le L' L) : fr_V Y K pc L st M := fr_wk h k
