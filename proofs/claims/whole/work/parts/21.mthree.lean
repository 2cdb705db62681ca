def md_oneStep (s : md_S) : md_S :=
  if 256 ≤ ((s.1 10 ((s.2 10) - 1).toNatClampNeg) + 1) then
    if (md_hasOperand ((s.1 1 (((s.1 9 ((s.2 10) - 1).toNatClampNeg) * 256) + (s.1 10 ((s.2 10) - 1).toNatClampNeg)).toNatClampNeg) &&& 255)) = 0 then
      if 5 ≤ ((s.1 1 (((s.1 9 ((s.2 10) - 1).toNatClampNeg) * 256) + (s.1 10 ((s.2 10) - 1).toNatClampNeg)).toNatClampNeg) &&& 255) then
        if 16 ≤ ((s.1 1 (((s.1 9 ((s.2 10) - 1).toNatClampNeg) * 256) + (s.1 10 ((s.2 10) - 1).toNatClampNeg)).toNatClampNeg) &&& 255) then
          if 19 ≤ ((s.1 1 (((s.1 9 ((s.2 10) - 1).toNatClampNeg) * 256) + (s.1 10 ((s.2 10) - 1).toNatClampNeg)).toNatClampNeg) &&& 255) then
            if 22 ≤ ((s.1 1 (((s.1 9 ((s.2 10) - 1).toNatClampNeg) * 256) + (s.1 10 ((s.2 10) - 1).toNatClampNeg)).toNatClampNeg) &&& 255) then
              if 25 ≤ ((s.1 1 (((s.1 9 ((s.2 10) - 1).toNatClampNeg) * 256) + (s.1 10 ((s.2 10) - 1).toNatClampNeg)).toNatClampNeg) &&& 255) then
                if 27 ≤ ((s.1 1 (((s.1 9 ((s.2 10) - 1).toNatClampNeg) * 256) + (s.1 10 ((s.2 10) - 1).toNatClampNeg)).toNatClampNeg) &&& 255) then
                  (md_call (md_sa (md_ss s 9 ((s.2 9) + 1)) 10 ((s.2 10) - 1) ((s.1 10 ((s.2 10) - 1).toNatClampNeg) + 1)) (0 &&& 255))
                else
                  (md_divide (md_sa (md_ss s 9 ((s.2 9) + 1)) 10 ((s.2 10) - 1) ((s.1 10 ((s.2 10) - 1).toNatClampNeg) + 1)) ((s.1 1 (((s.1 9 ((s.2 10) - 1).toNatClampNeg) * 256) + (s.1 10 ((s.2 10) - 1).toNatClampNeg)).toNatClampNeg) &&& 255))
              else
                (md_finish (md_sa (md_ss s 9 ((s.2 9) + 1)) 10 ((s.2 10) - 1) ((s.1 10 ((s.2 10) - 1).toNatClampNeg) + 1)) ((s.1 1 (((s.1 9 ((s.2 10) - 1).toNatClampNeg) * 256) + (s.1 10 ((s.2 10) - 1).toNatClampNeg)).toNatClampNeg) &&& 255))
            else
              (md_bytes (md_sa (md_ss s 9 ((s.2 9) + 1)) 10 ((s.2 10) - 1) ((s.1 10 ((s.2 10) - 1).toNatClampNeg) + 1)) ((s.1 1 (((s.1 9 ((s.2 10) - 1).toNatClampNeg) * 256) + (s.1 10 ((s.2 10) - 1).toNatClampNeg)).toNatClampNeg) &&& 255))
          else
            (md_jumps (md_sa (md_ss s 9 ((s.2 9) + 1)) 10 ((s.2 10) - 1) ((s.1 10 ((s.2 10) - 1).toNatClampNeg) + 1)) ((s.1 1 (((s.1 9 ((s.2 10) - 1).toNatClampNeg) * 256) + (s.1 10 ((s.2 10) - 1).toNatClampNeg)).toNatClampNeg) &&& 255) (0 &&& 255) ((s.2 10) - 1))
        else
          (md_works (md_sa (md_ss s 9 ((s.2 9) + 1)) 10 ((s.2 10) - 1) ((s.1 10 ((s.2 10) - 1).toNatClampNeg) + 1)) ((s.1 1 (((s.1 9 ((s.2 10) - 1).toNatClampNeg) * 256) + (s.1 10 ((s.2 10) - 1).toNatClampNeg)).toNatClampNeg) &&& 255))
      else
        (md_simple (md_sa (md_ss s 9 ((s.2 9) + 1)) 10 ((s.2 10) - 1) ((s.1 10 ((s.2 10) - 1).toNatClampNeg) + 1)) ((s.1 1 (((s.1 9 ((s.2 10) - 1).toNatClampNeg) * 256) + (s.1 10 ((s.2 10) - 1).toNatClampNeg)).toNatClampNeg) &&& 255) 0 ((s.2 10) - 1) (s.1 9 ((s.2 10) - 1).toNatClampNeg))
    else
      if 5 ≤ ((s.1 1 (((s.1 9 ((s.2 10) - 1).toNatClampNeg) * 256) + (s.1 10 ((s.2 10) - 1).toNatClampNeg)).toNatClampNeg) &&& 255) then
        if 16 ≤ ((s.1 1 (((s.1 9 ((s.2 10) - 1).toNatClampNeg) * 256) + (s.1 10 ((s.2 10) - 1).toNatClampNeg)).toNatClampNeg) &&& 255) then
          if 19 ≤ ((s.1 1 (((s.1 9 ((s.2 10) - 1).toNatClampNeg) * 256) + (s.1 10 ((s.2 10) - 1).toNatClampNeg)).toNatClampNeg) &&& 255) then
            if 22 ≤ ((s.1 1 (((s.1 9 ((s.2 10) - 1).toNatClampNeg) * 256) + (s.1 10 ((s.2 10) - 1).toNatClampNeg)).toNatClampNeg) &&& 255) then
              if 25 ≤ ((s.1 1 (((s.1 9 ((s.2 10) - 1).toNatClampNeg) * 256) + (s.1 10 ((s.2 10) - 1).toNatClampNeg)).toNatClampNeg) &&& 255) then
                if 27 ≤ ((s.1 1 (((s.1 9 ((s.2 10) - 1).toNatClampNeg) * 256) + (s.1 10 ((s.2 10) - 1).toNatClampNeg)).toNatClampNeg) &&& 255) then
                  (md_call (md_sa (md_ss s 9 ((s.2 9) + 1)) 10 ((s.2 10) - 1) ((s.1 10 ((s.2 10) - 1).toNatClampNeg) + 2)) (0 &&& 255))
                else
                  (md_divide (md_sa (md_ss s 9 ((s.2 9) + 1)) 10 ((s.2 10) - 1) ((s.1 10 ((s.2 10) - 1).toNatClampNeg) + 2)) ((s.1 1 (((s.1 9 ((s.2 10) - 1).toNatClampNeg) * 256) + (s.1 10 ((s.2 10) - 1).toNatClampNeg)).toNatClampNeg) &&& 255))
              else
                (md_finish (md_sa (md_ss s 9 ((s.2 9) + 1)) 10 ((s.2 10) - 1) ((s.1 10 ((s.2 10) - 1).toNatClampNeg) + 2)) ((s.1 1 (((s.1 9 ((s.2 10) - 1).toNatClampNeg) * 256) + (s.1 10 ((s.2 10) - 1).toNatClampNeg)).toNatClampNeg) &&& 255))
            else
              (md_bytes (md_sa (md_ss s 9 ((s.2 9) + 1)) 10 ((s.2 10) - 1) ((s.1 10 ((s.2 10) - 1).toNatClampNeg) + 2)) ((s.1 1 (((s.1 9 ((s.2 10) - 1).toNatClampNeg) * 256) + (s.1 10 ((s.2 10) - 1).toNatClampNeg)).toNatClampNeg) &&& 255))
          else
            (md_jumps (md_sa (md_ss s 9 ((s.2 9) + 1)) 10 ((s.2 10) - 1) ((s.1 10 ((s.2 10) - 1).toNatClampNeg) + 2)) ((s.1 1 (((s.1 9 ((s.2 10) - 1).toNatClampNeg) * 256) + (s.1 10 ((s.2 10) - 1).toNatClampNeg)).toNatClampNeg) &&& 255) (0 &&& 255) ((s.2 10) - 1))
        else
          (md_works (md_sa (md_ss s 9 ((s.2 9) + 1)) 10 ((s.2 10) - 1) ((s.1 10 ((s.2 10) - 1).toNatClampNeg) + 2)) ((s.1 1 (((s.1 9 ((s.2 10) - 1).toNatClampNeg) * 256) + (s.1 10 ((s.2 10) - 1).toNatClampNeg)).toNatClampNeg) &&& 255))
      else
        (md_simple (md_sa (md_ss s 9 ((s.2 9) + 1)) 10 ((s.2 10) - 1) ((s.1 10 ((s.2 10) - 1).toNatClampNeg) + 2)) ((s.1 1 (((s.1 9 ((s.2 10) - 1).toNatClampNeg) * 256) + (s.1 10 ((s.2 10) - 1).toNatClampNeg)).toNatClampNeg) &&& 255) 0 ((s.2 10) - 1) (s.1 9 ((s.2 10) - 1).toNatClampNeg))
  else
    if (md_hasOperand ((s.1 1 (((s.1 9 ((s.2 10) - 1).toNatClampNeg) * 256) + (s.1 10 ((s.2 10) - 1).toNatClampNeg)).toNatClampNeg) &&& 255)) = 0 then
      if 5 ≤ ((s.1 1 (((s.1 9 ((s.2 10) - 1).toNatClampNeg) * 256) + (s.1 10 ((s.2 10) - 1).toNatClampNeg)).toNatClampNeg) &&& 255) then
        if 16 ≤ ((s.1 1 (((s.1 9 ((s.2 10) - 1).toNatClampNeg) * 256) + (s.1 10 ((s.2 10) - 1).toNatClampNeg)).toNatClampNeg) &&& 255) then
          if 19 ≤ ((s.1 1 (((s.1 9 ((s.2 10) - 1).toNatClampNeg) * 256) + (s.1 10 ((s.2 10) - 1).toNatClampNeg)).toNatClampNeg) &&& 255) then
            if 22 ≤ ((s.1 1 (((s.1 9 ((s.2 10) - 1).toNatClampNeg) * 256) + (s.1 10 ((s.2 10) - 1).toNatClampNeg)).toNatClampNeg) &&& 255) then
              if 25 ≤ ((s.1 1 (((s.1 9 ((s.2 10) - 1).toNatClampNeg) * 256) + (s.1 10 ((s.2 10) - 1).toNatClampNeg)).toNatClampNeg) &&& 255) then
                if 27 ≤ ((s.1 1 (((s.1 9 ((s.2 10) - 1).toNatClampNeg) * 256) + (s.1 10 ((s.2 10) - 1).toNatClampNeg)).toNatClampNeg) &&& 255) then
                  (md_call (md_sa (md_ss s 9 ((s.2 9) + 1)) 10 ((s.2 10) - 1) ((s.1 10 ((s.2 10) - 1).toNatClampNeg) + 1)) ((s.1 1 ((((s.1 9 ((s.2 10) - 1).toNatClampNeg) * 256) + (s.1 10 ((s.2 10) - 1).toNatClampNeg)) + 1).toNatClampNeg) &&& 255))
                else
                  (md_divide (md_sa (md_ss s 9 ((s.2 9) + 1)) 10 ((s.2 10) - 1) ((s.1 10 ((s.2 10) - 1).toNatClampNeg) + 1)) ((s.1 1 (((s.1 9 ((s.2 10) - 1).toNatClampNeg) * 256) + (s.1 10 ((s.2 10) - 1).toNatClampNeg)).toNatClampNeg) &&& 255))
              else
                (md_finish (md_sa (md_ss s 9 ((s.2 9) + 1)) 10 ((s.2 10) - 1) ((s.1 10 ((s.2 10) - 1).toNatClampNeg) + 1)) ((s.1 1 (((s.1 9 ((s.2 10) - 1).toNatClampNeg) * 256) + (s.1 10 ((s.2 10) - 1).toNatClampNeg)).toNatClampNeg) &&& 255))
            else
              (md_bytes (md_sa (md_ss s 9 ((s.2 9) + 1)) 10 ((s.2 10) - 1) ((s.1 10 ((s.2 10) - 1).toNatClampNeg) + 1)) ((s.1 1 (((s.1 9 ((s.2 10) - 1).toNatClampNeg) * 256) + (s.1 10 ((s.2 10) - 1).toNatClampNeg)).toNatClampNeg) &&& 255))
          else
            (md_jumps (md_sa (md_ss s 9 ((s.2 9) + 1)) 10 ((s.2 10) - 1) ((s.1 10 ((s.2 10) - 1).toNatClampNeg) + 1)) ((s.1 1 (((s.1 9 ((s.2 10) - 1).toNatClampNeg) * 256) + (s.1 10 ((s.2 10) - 1).toNatClampNeg)).toNatClampNeg) &&& 255) ((s.1 1 ((((s.1 9 ((s.2 10) - 1).toNatClampNeg) * 256) + (s.1 10 ((s.2 10) - 1).toNatClampNeg)) + 1).toNatClampNeg) &&& 255) ((s.2 10) - 1))
        else
          (md_works (md_sa (md_ss s 9 ((s.2 9) + 1)) 10 ((s.2 10) - 1) ((s.1 10 ((s.2 10) - 1).toNatClampNeg) + 1)) ((s.1 1 (((s.1 9 ((s.2 10) - 1).toNatClampNeg) * 256) + (s.1 10 ((s.2 10) - 1).toNatClampNeg)).toNatClampNeg) &&& 255))
      else
        (md_simple (md_sa (md_ss s 9 ((s.2 9) + 1)) 10 ((s.2 10) - 1) ((s.1 10 ((s.2 10) - 1).toNatClampNeg) + 1)) ((s.1 1 (((s.1 9 ((s.2 10) - 1).toNatClampNeg) * 256) + (s.1 10 ((s.2 10) - 1).toNatClampNeg)).toNatClampNeg) &&& 255) (s.1 1 ((((s.1 9 ((s.2 10) - 1).toNatClampNeg) * 256) + (s.1 10 ((s.2 10) - 1).toNatClampNeg)) + 1).toNatClampNeg) ((s.2 10) - 1) (s.1 9 ((s.2 10) - 1).toNatClampNeg))
    else
      if 5 ≤ ((s.1 1 (((s.1 9 ((s.2 10) - 1).toNatClampNeg) * 256) + (s.1 10 ((s.2 10) - 1).toNatClampNeg)).toNatClampNeg) &&& 255) then
        if 16 ≤ ((s.1 1 (((s.1 9 ((s.2 10) - 1).toNatClampNeg) * 256) + (s.1 10 ((s.2 10) - 1).toNatClampNeg)).toNatClampNeg) &&& 255) then
          if 19 ≤ ((s.1 1 (((s.1 9 ((s.2 10) - 1).toNatClampNeg) * 256) + (s.1 10 ((s.2 10) - 1).toNatClampNeg)).toNatClampNeg) &&& 255) then
            if 22 ≤ ((s.1 1 (((s.1 9 ((s.2 10) - 1).toNatClampNeg) * 256) + (s.1 10 ((s.2 10) - 1).toNatClampNeg)).toNatClampNeg) &&& 255) then
              if 25 ≤ ((s.1 1 (((s.1 9 ((s.2 10) - 1).toNatClampNeg) * 256) + (s.1 10 ((s.2 10) - 1).toNatClampNeg)).toNatClampNeg) &&& 255) then
                if 27 ≤ ((s.1 1 (((s.1 9 ((s.2 10) - 1).toNatClampNeg) * 256) + (s.1 10 ((s.2 10) - 1).toNatClampNeg)).toNatClampNeg) &&& 255) then
                  (md_call (md_sa (md_ss s 9 ((s.2 9) + 1)) 10 ((s.2 10) - 1) ((s.1 10 ((s.2 10) - 1).toNatClampNeg) + 2)) ((s.1 1 ((((s.1 9 ((s.2 10) - 1).toNatClampNeg) * 256) + (s.1 10 ((s.2 10) - 1).toNatClampNeg)) + 1).toNatClampNeg) &&& 255))
                else
                  (md_divide (md_sa (md_ss s 9 ((s.2 9) + 1)) 10 ((s.2 10) - 1) ((s.1 10 ((s.2 10) - 1).toNatClampNeg) + 2)) ((s.1 1 (((s.1 9 ((s.2 10) - 1).toNatClampNeg) * 256) + (s.1 10 ((s.2 10) - 1).toNatClampNeg)).toNatClampNeg) &&& 255))
              else
                (md_finish (md_sa (md_ss s 9 ((s.2 9) + 1)) 10 ((s.2 10) - 1) ((s.1 10 ((s.2 10) - 1).toNatClampNeg) + 2)) ((s.1 1 (((s.1 9 ((s.2 10) - 1).toNatClampNeg) * 256) + (s.1 10 ((s.2 10) - 1).toNatClampNeg)).toNatClampNeg) &&& 255))
            else
              (md_bytes (md_sa (md_ss s 9 ((s.2 9) + 1)) 10 ((s.2 10) - 1) ((s.1 10 ((s.2 10) - 1).toNatClampNeg) + 2)) ((s.1 1 (((s.1 9 ((s.2 10) - 1).toNatClampNeg) * 256) + (s.1 10 ((s.2 10) - 1).toNatClampNeg)).toNatClampNeg) &&& 255))
          else
            (md_jumps (md_sa (md_ss s 9 ((s.2 9) + 1)) 10 ((s.2 10) - 1) ((s.1 10 ((s.2 10) - 1).toNatClampNeg) + 2)) ((s.1 1 (((s.1 9 ((s.2 10) - 1).toNatClampNeg) * 256) + (s.1 10 ((s.2 10) - 1).toNatClampNeg)).toNatClampNeg) &&& 255) ((s.1 1 ((((s.1 9 ((s.2 10) - 1).toNatClampNeg) * 256) + (s.1 10 ((s.2 10) - 1).toNatClampNeg)) + 1).toNatClampNeg) &&& 255) ((s.2 10) - 1))
        else
          (md_works (md_sa (md_ss s 9 ((s.2 9) + 1)) 10 ((s.2 10) - 1) ((s.1 10 ((s.2 10) - 1).toNatClampNeg) + 2)) ((s.1 1 (((s.1 9 ((s.2 10) - 1).toNatClampNeg) * 256) + (s.1 10 ((s.2 10) - 1).toNatClampNeg)).toNatClampNeg) &&& 255))
      else
        (md_simple (md_sa (md_ss s 9 ((s.2 9) + 1)) 10 ((s.2 10) - 1) ((s.1 10 ((s.2 10) - 1).toNatClampNeg) + 2)) ((s.1 1 (((s.1 9 ((s.2 10) - 1).toNatClampNeg) * 256) + (s.1 10 ((s.2 10) - 1).toNatClampNeg)).toNatClampNeg) &&& 255) (s.1 1 ((((s.1 9 ((s.2 10) - 1).toNatClampNeg) * 256) + (s.1 10 ((s.2 10) - 1).toNatClampNeg)) + 1).toNatClampNeg) ((s.2 10) - 1) (s.1 9 ((s.2 10) - 1).toNatClampNeg))
def md_oneStep_ok (s : md_S) : Prop :=
  (vp_in ((s.2 10) - 1) 8) ∧ (vp_in ((s.2 10) - 1) 8) ∧ (vp_in (((s.1 9 ((s.2 10) - 1).toNatClampNeg) * 256) + (s.1 10 ((s.2 10) - 1).toNatClampNeg)) 2048) ∧ (
  if 256 ≤ ((s.1 10 ((s.2 10) - 1).toNatClampNeg) + 1) then
    if (md_hasOperand ((s.1 1 (((s.1 9 ((s.2 10) - 1).toNatClampNeg) * 256) + (s.1 10 ((s.2 10) - 1).toNatClampNeg)).toNatClampNeg) &&& 255)) = 0 then
      (vp_in ((s.2 10) - 1) 8) ∧ (
      if 5 ≤ ((s.1 1 (((s.1 9 ((s.2 10) - 1).toNatClampNeg) * 256) + (s.1 10 ((s.2 10) - 1).toNatClampNeg)).toNatClampNeg) &&& 255) then
        if 16 ≤ ((s.1 1 (((s.1 9 ((s.2 10) - 1).toNatClampNeg) * 256) + (s.1 10 ((s.2 10) - 1).toNatClampNeg)).toNatClampNeg) &&& 255) then
          if 19 ≤ ((s.1 1 (((s.1 9 ((s.2 10) - 1).toNatClampNeg) * 256) + (s.1 10 ((s.2 10) - 1).toNatClampNeg)).toNatClampNeg) &&& 255) then
            if 22 ≤ ((s.1 1 (((s.1 9 ((s.2 10) - 1).toNatClampNeg) * 256) + (s.1 10 ((s.2 10) - 1).toNatClampNeg)).toNatClampNeg) &&& 255) then
              if 25 ≤ ((s.1 1 (((s.1 9 ((s.2 10) - 1).toNatClampNeg) * 256) + (s.1 10 ((s.2 10) - 1).toNatClampNeg)).toNatClampNeg) &&& 255) then
                if 27 ≤ ((s.1 1 (((s.1 9 ((s.2 10) - 1).toNatClampNeg) * 256) + (s.1 10 ((s.2 10) - 1).toNatClampNeg)).toNatClampNeg) &&& 255) then
                  (md_call_ok (md_sa (md_ss s 9 ((s.2 9) + 1)) 10 ((s.2 10) - 1) ((s.1 10 ((s.2 10) - 1).toNatClampNeg) + 1)) (0 &&& 255)) ∧ (
                  True)
                else
                  (md_divide_ok (md_sa (md_ss s 9 ((s.2 9) + 1)) 10 ((s.2 10) - 1) ((s.1 10 ((s.2 10) - 1).toNatClampNeg) + 1)) ((s.1 1 (((s.1 9 ((s.2 10) - 1).toNatClampNeg) * 256) + (s.1 10 ((s.2 10) - 1).toNatClampNeg)).toNatClampNeg) &&& 255)) ∧ (
                  True)
              else
                (md_finish_ok (md_sa (md_ss s 9 ((s.2 9) + 1)) 10 ((s.2 10) - 1) ((s.1 10 ((s.2 10) - 1).toNatClampNeg) + 1)) ((s.1 1 (((s.1 9 ((s.2 10) - 1).toNatClampNeg) * 256) + (s.1 10 ((s.2 10) - 1).toNatClampNeg)).toNatClampNeg) &&& 255)) ∧ (
                True)
            else
              (md_bytes_ok (md_sa (md_ss s 9 ((s.2 9) + 1)) 10 ((s.2 10) - 1) ((s.1 10 ((s.2 10) - 1).toNatClampNeg) + 1)) ((s.1 1 (((s.1 9 ((s.2 10) - 1).toNatClampNeg) * 256) + (s.1 10 ((s.2 10) - 1).toNatClampNeg)).toNatClampNeg) &&& 255)) ∧ (
              True)
          else
            (md_jumps_ok (md_sa (md_ss s 9 ((s.2 9) + 1)) 10 ((s.2 10) - 1) ((s.1 10 ((s.2 10) - 1).toNatClampNeg) + 1)) ((s.1 1 (((s.1 9 ((s.2 10) - 1).toNatClampNeg) * 256) + (s.1 10 ((s.2 10) - 1).toNatClampNeg)).toNatClampNeg) &&& 255) (0 &&& 255) ((s.2 10) - 1)) ∧ (
            True)
        else
          (md_works_ok (md_sa (md_ss s 9 ((s.2 9) + 1)) 10 ((s.2 10) - 1) ((s.1 10 ((s.2 10) - 1).toNatClampNeg) + 1)) ((s.1 1 (((s.1 9 ((s.2 10) - 1).toNatClampNeg) * 256) + (s.1 10 ((s.2 10) - 1).toNatClampNeg)).toNatClampNeg) &&& 255)) ∧ (
          True)
      else
        (md_simple_ok (md_sa (md_ss s 9 ((s.2 9) + 1)) 10 ((s.2 10) - 1) ((s.1 10 ((s.2 10) - 1).toNatClampNeg) + 1)) ((s.1 1 (((s.1 9 ((s.2 10) - 1).toNatClampNeg) * 256) + (s.1 10 ((s.2 10) - 1).toNatClampNeg)).toNatClampNeg) &&& 255) 0 ((s.2 10) - 1) (s.1 9 ((s.2 10) - 1).toNatClampNeg)) ∧ (
        True))
    else
      (vp_in ((s.2 10) - 1) 8) ∧ (
      if 5 ≤ ((s.1 1 (((s.1 9 ((s.2 10) - 1).toNatClampNeg) * 256) + (s.1 10 ((s.2 10) - 1).toNatClampNeg)).toNatClampNeg) &&& 255) then
        if 16 ≤ ((s.1 1 (((s.1 9 ((s.2 10) - 1).toNatClampNeg) * 256) + (s.1 10 ((s.2 10) - 1).toNatClampNeg)).toNatClampNeg) &&& 255) then
          if 19 ≤ ((s.1 1 (((s.1 9 ((s.2 10) - 1).toNatClampNeg) * 256) + (s.1 10 ((s.2 10) - 1).toNatClampNeg)).toNatClampNeg) &&& 255) then
            if 22 ≤ ((s.1 1 (((s.1 9 ((s.2 10) - 1).toNatClampNeg) * 256) + (s.1 10 ((s.2 10) - 1).toNatClampNeg)).toNatClampNeg) &&& 255) then
              if 25 ≤ ((s.1 1 (((s.1 9 ((s.2 10) - 1).toNatClampNeg) * 256) + (s.1 10 ((s.2 10) - 1).toNatClampNeg)).toNatClampNeg) &&& 255) then
                if 27 ≤ ((s.1 1 (((s.1 9 ((s.2 10) - 1).toNatClampNeg) * 256) + (s.1 10 ((s.2 10) - 1).toNatClampNeg)).toNatClampNeg) &&& 255) then
                  (md_call_ok (md_sa (md_ss s 9 ((s.2 9) + 1)) 10 ((s.2 10) - 1) ((s.1 10 ((s.2 10) - 1).toNatClampNeg) + 2)) (0 &&& 255)) ∧ (
                  True)
                else
                  (md_divide_ok (md_sa (md_ss s 9 ((s.2 9) + 1)) 10 ((s.2 10) - 1) ((s.1 10 ((s.2 10) - 1).toNatClampNeg) + 2)) ((s.1 1 (((s.1 9 ((s.2 10) - 1).toNatClampNeg) * 256) + (s.1 10 ((s.2 10) - 1).toNatClampNeg)).toNatClampNeg) &&& 255)) ∧ (
                  True)
              else
                (md_finish_ok (md_sa (md_ss s 9 ((s.2 9) + 1)) 10 ((s.2 10) - 1) ((s.1 10 ((s.2 10) - 1).toNatClampNeg) + 2)) ((s.1 1 (((s.1 9 ((s.2 10) - 1).toNatClampNeg) * 256) + (s.1 10 ((s.2 10) - 1).toNatClampNeg)).toNatClampNeg) &&& 255)) ∧ (
                True)
            else
              (md_bytes_ok (md_sa (md_ss s 9 ((s.2 9) + 1)) 10 ((s.2 10) - 1) ((s.1 10 ((s.2 10) - 1).toNatClampNeg) + 2)) ((s.1 1 (((s.1 9 ((s.2 10) - 1).toNatClampNeg) * 256) + (s.1 10 ((s.2 10) - 1).toNatClampNeg)).toNatClampNeg) &&& 255)) ∧ (
              True)
          else
            (md_jumps_ok (md_sa (md_ss s 9 ((s.2 9) + 1)) 10 ((s.2 10) - 1) ((s.1 10 ((s.2 10) - 1).toNatClampNeg) + 2)) ((s.1 1 (((s.1 9 ((s.2 10) - 1).toNatClampNeg) * 256) + (s.1 10 ((s.2 10) - 1).toNatClampNeg)).toNatClampNeg) &&& 255) (0 &&& 255) ((s.2 10) - 1)) ∧ (
            True)
        else
          (md_works_ok (md_sa (md_ss s 9 ((s.2 9) + 1)) 10 ((s.2 10) - 1) ((s.1 10 ((s.2 10) - 1).toNatClampNeg) + 2)) ((s.1 1 (((s.1 9 ((s.2 10) - 1).toNatClampNeg) * 256) + (s.1 10 ((s.2 10) - 1).toNatClampNeg)).toNatClampNeg) &&& 255)) ∧ (
          True)
      else
        (md_simple_ok (md_sa (md_ss s 9 ((s.2 9) + 1)) 10 ((s.2 10) - 1) ((s.1 10 ((s.2 10) - 1).toNatClampNeg) + 2)) ((s.1 1 (((s.1 9 ((s.2 10) - 1).toNatClampNeg) * 256) + (s.1 10 ((s.2 10) - 1).toNatClampNeg)).toNatClampNeg) &&& 255) 0 ((s.2 10) - 1) (s.1 9 ((s.2 10) - 1).toNatClampNeg)) ∧ (
        True))
  else
    (vp_in ((((s.1 9 ((s.2 10) - 1).toNatClampNeg) * 256) + (s.1 10 ((s.2 10) - 1).toNatClampNeg)) + 1) 2048) ∧ (
    if (md_hasOperand ((s.1 1 (((s.1 9 ((s.2 10) - 1).toNatClampNeg) * 256) + (s.1 10 ((s.2 10) - 1).toNatClampNeg)).toNatClampNeg) &&& 255)) = 0 then
      (vp_in ((s.2 10) - 1) 8) ∧ (
      if 5 ≤ ((s.1 1 (((s.1 9 ((s.2 10) - 1).toNatClampNeg) * 256) + (s.1 10 ((s.2 10) - 1).toNatClampNeg)).toNatClampNeg) &&& 255) then
        if 16 ≤ ((s.1 1 (((s.1 9 ((s.2 10) - 1).toNatClampNeg) * 256) + (s.1 10 ((s.2 10) - 1).toNatClampNeg)).toNatClampNeg) &&& 255) then
          if 19 ≤ ((s.1 1 (((s.1 9 ((s.2 10) - 1).toNatClampNeg) * 256) + (s.1 10 ((s.2 10) - 1).toNatClampNeg)).toNatClampNeg) &&& 255) then
            if 22 ≤ ((s.1 1 (((s.1 9 ((s.2 10) - 1).toNatClampNeg) * 256) + (s.1 10 ((s.2 10) - 1).toNatClampNeg)).toNatClampNeg) &&& 255) then
              if 25 ≤ ((s.1 1 (((s.1 9 ((s.2 10) - 1).toNatClampNeg) * 256) + (s.1 10 ((s.2 10) - 1).toNatClampNeg)).toNatClampNeg) &&& 255) then
                if 27 ≤ ((s.1 1 (((s.1 9 ((s.2 10) - 1).toNatClampNeg) * 256) + (s.1 10 ((s.2 10) - 1).toNatClampNeg)).toNatClampNeg) &&& 255) then
                  (md_call_ok (md_sa (md_ss s 9 ((s.2 9) + 1)) 10 ((s.2 10) - 1) ((s.1 10 ((s.2 10) - 1).toNatClampNeg) + 1)) ((s.1 1 ((((s.1 9 ((s.2 10) - 1).toNatClampNeg) * 256) + (s.1 10 ((s.2 10) - 1).toNatClampNeg)) + 1).toNatClampNeg) &&& 255)) ∧ (
                  True)
                else
                  (md_divide_ok (md_sa (md_ss s 9 ((s.2 9) + 1)) 10 ((s.2 10) - 1) ((s.1 10 ((s.2 10) - 1).toNatClampNeg) + 1)) ((s.1 1 (((s.1 9 ((s.2 10) - 1).toNatClampNeg) * 256) + (s.1 10 ((s.2 10) - 1).toNatClampNeg)).toNatClampNeg) &&& 255)) ∧ (
                  True)
              else
                (md_finish_ok (md_sa (md_ss s 9 ((s.2 9) + 1)) 10 ((s.2 10) - 1) ((s.1 10 ((s.2 10) - 1).toNatClampNeg) + 1)) ((s.1 1 (((s.1 9 ((s.2 10) - 1).toNatClampNeg) * 256) + (s.1 10 ((s.2 10) - 1).toNatClampNeg)).toNatClampNeg) &&& 255)) ∧ (
                True)
            else
              (md_bytes_ok (md_sa (md_ss s 9 ((s.2 9) + 1)) 10 ((s.2 10) - 1) ((s.1 10 ((s.2 10) - 1).toNatClampNeg) + 1)) ((s.1 1 (((s.1 9 ((s.2 10) - 1).toNatClampNeg) * 256) + (s.1 10 ((s.2 10) - 1).toNatClampNeg)).toNatClampNeg) &&& 255)) ∧ (
              True)
          else
            (md_jumps_ok (md_sa (md_ss s 9 ((s.2 9) + 1)) 10 ((s.2 10) - 1) ((s.1 10 ((s.2 10) - 1).toNatClampNeg) + 1)) ((s.1 1 (((s.1 9 ((s.2 10) - 1).toNatClampNeg) * 256) + (s.1 10 ((s.2 10) - 1).toNatClampNeg)).toNatClampNeg) &&& 255) ((s.1 1 ((((s.1 9 ((s.2 10) - 1).toNatClampNeg) * 256) + (s.1 10 ((s.2 10) - 1).toNatClampNeg)) + 1).toNatClampNeg) &&& 255) ((s.2 10) - 1)) ∧ (
            True)
        else
          (md_works_ok (md_sa (md_ss s 9 ((s.2 9) + 1)) 10 ((s.2 10) - 1) ((s.1 10 ((s.2 10) - 1).toNatClampNeg) + 1)) ((s.1 1 (((s.1 9 ((s.2 10) - 1).toNatClampNeg) * 256) + (s.1 10 ((s.2 10) - 1).toNatClampNeg)).toNatClampNeg) &&& 255)) ∧ (
          True)
      else
        (md_simple_ok (md_sa (md_ss s 9 ((s.2 9) + 1)) 10 ((s.2 10) - 1) ((s.1 10 ((s.2 10) - 1).toNatClampNeg) + 1)) ((s.1 1 (((s.1 9 ((s.2 10) - 1).toNatClampNeg) * 256) + (s.1 10 ((s.2 10) - 1).toNatClampNeg)).toNatClampNeg) &&& 255) (s.1 1 ((((s.1 9 ((s.2 10) - 1).toNatClampNeg) * 256) + (s.1 10 ((s.2 10) - 1).toNatClampNeg)) + 1).toNatClampNeg) ((s.2 10) - 1) (s.1 9 ((s.2 10) - 1).toNatClampNeg)) ∧ (
        True))
    else
      (vp_in ((s.2 10) - 1) 8) ∧ (
      if 5 ≤ ((s.1 1 (((s.1 9 ((s.2 10) - 1).toNatClampNeg) * 256) + (s.1 10 ((s.2 10) - 1).toNatClampNeg)).toNatClampNeg) &&& 255) then
        if 16 ≤ ((s.1 1 (((s.1 9 ((s.2 10) - 1).toNatClampNeg) * 256) + (s.1 10 ((s.2 10) - 1).toNatClampNeg)).toNatClampNeg) &&& 255) then
          if 19 ≤ ((s.1 1 (((s.1 9 ((s.2 10) - 1).toNatClampNeg) * 256) + (s.1 10 ((s.2 10) - 1).toNatClampNeg)).toNatClampNeg) &&& 255) then
            if 22 ≤ ((s.1 1 (((s.1 9 ((s.2 10) - 1).toNatClampNeg) * 256) + (s.1 10 ((s.2 10) - 1).toNatClampNeg)).toNatClampNeg) &&& 255) then
              if 25 ≤ ((s.1 1 (((s.1 9 ((s.2 10) - 1).toNatClampNeg) * 256) + (s.1 10 ((s.2 10) - 1).toNatClampNeg)).toNatClampNeg) &&& 255) then
                if 27 ≤ ((s.1 1 (((s.1 9 ((s.2 10) - 1).toNatClampNeg) * 256) + (s.1 10 ((s.2 10) - 1).toNatClampNeg)).toNatClampNeg) &&& 255) then
                  (md_call_ok (md_sa (md_ss s 9 ((s.2 9) + 1)) 10 ((s.2 10) - 1) ((s.1 10 ((s.2 10) - 1).toNatClampNeg) + 2)) ((s.1 1 ((((s.1 9 ((s.2 10) - 1).toNatClampNeg) * 256) + (s.1 10 ((s.2 10) - 1).toNatClampNeg)) + 1).toNatClampNeg) &&& 255)) ∧ (
                  True)
                else
                  (md_divide_ok (md_sa (md_ss s 9 ((s.2 9) + 1)) 10 ((s.2 10) - 1) ((s.1 10 ((s.2 10) - 1).toNatClampNeg) + 2)) ((s.1 1 (((s.1 9 ((s.2 10) - 1).toNatClampNeg) * 256) + (s.1 10 ((s.2 10) - 1).toNatClampNeg)).toNatClampNeg) &&& 255)) ∧ (
                  True)
              else
                (md_finish_ok (md_sa (md_ss s 9 ((s.2 9) + 1)) 10 ((s.2 10) - 1) ((s.1 10 ((s.2 10) - 1).toNatClampNeg) + 2)) ((s.1 1 (((s.1 9 ((s.2 10) - 1).toNatClampNeg) * 256) + (s.1 10 ((s.2 10) - 1).toNatClampNeg)).toNatClampNeg) &&& 255)) ∧ (
                True)
            else
              (md_bytes_ok (md_sa (md_ss s 9 ((s.2 9) + 1)) 10 ((s.2 10) - 1) ((s.1 10 ((s.2 10) - 1).toNatClampNeg) + 2)) ((s.1 1 (((s.1 9 ((s.2 10) - 1).toNatClampNeg) * 256) + (s.1 10 ((s.2 10) - 1).toNatClampNeg)).toNatClampNeg) &&& 255)) ∧ (
              True)
          else
            (md_jumps_ok (md_sa (md_ss s 9 ((s.2 9) + 1)) 10 ((s.2 10) - 1) ((s.1 10 ((s.2 10) - 1).toNatClampNeg) + 2)) ((s.1 1 (((s.1 9 ((s.2 10) - 1).toNatClampNeg) * 256) + (s.1 10 ((s.2 10) - 1).toNatClampNeg)).toNatClampNeg) &&& 255) ((s.1 1 ((((s.1 9 ((s.2 10) - 1).toNatClampNeg) * 256) + (s.1 10 ((s.2 10) - 1).toNatClampNeg)) + 1).toNatClampNeg) &&& 255) ((s.2 10) - 1)) ∧ (
            True)
        else
          (md_works_ok (md_sa (md_ss s 9 ((s.2 9) + 1)) 10 ((s.2 10) - 1) ((s.1 10 ((s.2 10) - 1).toNatClampNeg) + 2)) ((s.1 1 (((s.1 9 ((s.2 10) - 1).toNatClampNeg) * 256) + (s.1 10 ((s.2 10) - 1).toNatClampNeg)).toNatClampNeg) &&& 255)) ∧ (
          True)
      else
        (md_simple_ok (md_sa (md_ss s 9 ((s.2 9) + 1)) 10 ((s.2 10) - 1) ((s.1 10 ((s.2 10) - 1).toNatClampNeg) + 2)) ((s.1 1 (((s.1 9 ((s.2 10) - 1).toNatClampNeg) * 256) + (s.1 10 ((s.2 10) - 1).toNatClampNeg)).toNatClampNeg) &&& 255) (s.1 1 ((((s.1 9 ((s.2 10) - 1).toNatClampNeg) * 256) + (s.1 10 ((s.2 10) - 1).toNatClampNeg)) + 1).toNatClampNeg) ((s.2 10) - 1) (s.1 9 ((s.2 10) - 1).toNatClampNeg)) ∧ (
        True))))
set_option maxHeartbeats 4000000 in
theorem k_oneStep {G : cy_G} {D : md_E} {s : md_S} {M : cy_Hp} {post : Option Value → cy_Hp → Prop} (hD : md_Eo G D) (hR : md_R D s M)  (ho : md_oneStep_ok s) (h : ∀ M', md_R D (md_oneStep s) M' → post none M') : cy_Ct G 3 m_Model_oneStep [.ref D.2.2.2.1] M 0 0 post := by
  refine cy_Ct.of (by decide) (Nat.le_of_ble_eq_true rfl) ?_
  intro F C P _
  have C : cy_C G F R_Model b_Model_oneStep 6 3 0 0 := C
  have P : cy_P G F none post 0 0 := P
  unfold md_oneStep_ok at ho
  show WM G F 6 0 0 0 [(0, .ref D.2.2.2.1)] [] M
  refine wm_aload_n C d_Model_oneStep_0 rfl (j := 0) rfl ?_
  refine wm_get C co_Model hR.1 19 (by decide) fl_Model_140 rfl d_Model_oneStep_1 ?_
  refine wm_iconst (v := 1) C d_Model_oneStep_4 (by decide) ?_
  refine wm_isub C d_Model_oneStep_5 ?_
  refine wm_istore_n (lv' := [(1, .int ((s.2 10) - 1)), (0, .ref D.2.2.2.1)]) C d_Model_oneStep_6 rfl (by decide) rfl ?_
  refine wm_aload_n C d_Model_oneStep_7 rfl (j := 1) rfl ?_
  refine wm_get C co_Model hR.1 20 (by decide) fl_Model_39 rfl d_Model_oneStep_8 ?_
  refine wm_iload_n C d_Model_oneStep_11 rfl (j := 0) rfl ?_
  obtain ⟨o1, ho⟩ := ho
  refine wm_iald C (md_arr hR 9 (by decide)) hD.1 o1 d_Model_oneStep_12 ?_
  refine wm_istore_n (lv' := [(2, .int (s.1 9 ((s.2 10) - 1).toNatClampNeg)), (1, .int ((s.2 10) - 1)), (0, .ref D.2.2.2.1)]) C d_Model_oneStep_13 rfl (by decide) rfl ?_
  refine wm_aload_n C d_Model_oneStep_14 rfl (j := 2) rfl ?_
  refine wm_get C co_Model hR.1 21 (by decide) fl_Model_42 rfl d_Model_oneStep_15 ?_
  refine wm_iload_n C d_Model_oneStep_18 rfl (j := 1) rfl ?_
  obtain ⟨o2, ho⟩ := ho
  refine wm_iald C (md_arr hR 10 (by decide)) hD.1 o2 d_Model_oneStep_19 ?_
  refine wm_istore_n (lv' := [(3, .int (s.1 10 ((s.2 10) - 1).toNatClampNeg)), (2, .int (s.1 9 ((s.2 10) - 1).toNatClampNeg)), (1, .int ((s.2 10) - 1)), (0, .ref D.2.2.2.1)]) C d_Model_oneStep_20 rfl (by decide) rfl ?_
  refine wm_aload_n C d_Model_oneStep_21 rfl (j := 3) rfl ?_
  refine wm_get C co_Model hR.1 2 (by decide) fl_Model_13 rfl d_Model_oneStep_22 ?_
  refine wm_iload_n C d_Model_oneStep_25 rfl (j := 1) rfl ?_
  refine wm_sipush (v := 256) C d_Model_oneStep_26 (by decide) ?_
  refine wm_imul C d_Model_oneStep_29 ?_
  refine wm_iload_n C d_Model_oneStep_30 rfl (j := 0) rfl ?_
  refine wm_iadd C d_Model_oneStep_31 ?_
  obtain ⟨o3, ho⟩ := ho
  refine wm_bald C (md_arr hR 1 (by decide)) hD.2.1 o3 d_Model_oneStep_32 ?_
  refine wm_sipush (v := 255) C d_Model_oneStep_33 (by decide) ?_
  refine wm_iand C d_Model_oneStep_36 ?_
  refine wm_istore (lv' := [(4, .int ((s.1 1 (((s.1 9 ((s.2 10) - 1).toNatClampNeg) * 256) + (s.1 10 ((s.2 10) - 1).toNatClampNeg)).toNatClampNeg) &&& 255)), (3, .int (s.1 10 ((s.2 10) - 1).toNatClampNeg)), (2, .int (s.1 9 ((s.2 10) - 1).toNatClampNeg)), (1, .int ((s.2 10) - 1)), (0, .ref D.2.2.2.1)]) C d_Model_oneStep_37 (by decide) rfl ?_
  refine wm_iload_n C d_Model_oneStep_39 rfl (j := 1) rfl ?_
  refine wm_iconst (v := 1) C d_Model_oneStep_40 (by decide) ?_
  refine wm_iadd C d_Model_oneStep_41 ?_
  refine wm_sipush (v := 256) C d_Model_oneStep_42 (by decide) ?_
  refine wm_icmp_ge (tgt := 65) C d_Model_oneStep_45 (by decide) (fun (h_45 : 256 ≤ ((s.1 10 ((s.2 10) - 1).toNatClampNeg) + 1)) => ?_) (fun (h_45 : ¬ 256 ≤ ((s.1 10 ((s.2 10) - 1).toNatClampNeg) + 1)) => ?_)
  · rw [if_pos h_45] at ho
    refine wm_iconst (v := 0) C d_Model_oneStep_65 (by decide) ?_
    refine wm_istore (lv' := [(5, .int 0), (4, .int ((s.1 1 (((s.1 9 ((s.2 10) - 1).toNatClampNeg) * 256) + (s.1 10 ((s.2 10) - 1).toNatClampNeg)).toNatClampNeg) &&& 255)), (3, .int (s.1 10 ((s.2 10) - 1).toNatClampNeg)), (2, .int (s.1 9 ((s.2 10) - 1).toNatClampNeg)), (1, .int ((s.2 10) - 1)), (0, .ref D.2.2.2.1)]) C d_Model_oneStep_66 (by decide) rfl ?_
    refine wm_aload_n C d_Model_oneStep_68 rfl (j := 5) rfl ?_
    refine wm_dup C d_Model_oneStep_69 rfl ?_
    refine wm_get C co_Model hR.1 18 (by decide) fl_Model_137 rfl d_Model_oneStep_70 ?_
    refine wm_iconst (v := 1) C d_Model_oneStep_73 (by decide) ?_
    refine wm_iadd C d_Model_oneStep_74 ?_
    refine wm_put C co_Model hR.1 18 (by decide) fl_Model_137 rfl rfl rfl (Nat.le_of_ble_eq_true rfl) d_Model_oneStep_75 ?_
    refine md_gen (md_R_ss hR 9 ((s.2 9) + 1)) (fun M1 hR1 => ?_)
    refine wm_aload_n C d_Model_oneStep_78 rfl (j := 5) rfl ?_
    refine wm_get C co_Model hR1.1 21 (by decide) fl_Model_42 rfl d_Model_oneStep_79 ?_
    refine wm_iload_n C d_Model_oneStep_82 rfl (j := 4) rfl ?_
    refine wm_iload_n C d_Model_oneStep_83 rfl (j := 2) rfl ?_
    refine wm_iload C d_Model_oneStep_84 (j := 1) rfl ?_
    refine wm_callS (d2 := 0) (mc := 0) (ms := 0) C mo_Model_hasOperand ml_Model_85 [.int ((s.1 1 (((s.1 9 ((s.2 10) - 1).toNatClampNeg) * 256) + (s.1 10 ((s.2 10) - 1).toNatClampNeg)).toNatClampNeg) &&& 255)] [.int (s.1 10 ((s.2 10) - 1).toNatClampNeg), .int ((s.2 10) - 1), .ref (D.2.2.2.1 + 11)] rfl rfl (by decide) (Nat.le_of_ble_eq_true rfl) (Nat.le_refl _) (Nat.le_refl _) d_Model_oneStep_86 (cy_ki ?_)
    refine k_hasOperand hD hR1 _  ⟨_, rfl, ?_⟩
    refine wm_if_eq (tgt := 96) C d_Model_oneStep_89 (by decide) (fun (h_89 : (md_hasOperand ((s.1 1 (((s.1 9 ((s.2 10) - 1).toNatClampNeg) * 256) + (s.1 10 ((s.2 10) - 1).toNatClampNeg)).toNatClampNeg) &&& 255)) = 0) => ?_) (fun (h_89 : ¬ (md_hasOperand ((s.1 1 (((s.1 9 ((s.2 10) - 1).toNatClampNeg) * 256) + (s.1 10 ((s.2 10) - 1).toNatClampNeg)).toNatClampNeg) &&& 255)) = 0) => ?_)
    · rw [if_pos h_89] at ho
      refine wm_iconst (v := 1) C d_Model_oneStep_96 (by decide) ?_
      refine wm_iadd C d_Model_oneStep_97 ?_
      obtain ⟨o4, ho⟩ := ho
      refine wm_iast C (md_arr hR1 10 (by decide)) hD.1 o4 d_Model_oneStep_98 ?_
      refine md_gen (md_R_sa hR1 (a := 10) (by decide) ((s.2 10) - 1) ((s.1 10 ((s.2 10) - 1).toNatClampNeg) + 1)) (fun M2 hR2 => ?_)
      refine wm_iload C d_Model_oneStep_99 (j := 1) rfl ?_
      refine wm_iconst (v := 5) C d_Model_oneStep_101 (by decide) ?_
      refine wm_icmp_ge (tgt := 118) C d_Model_oneStep_102 (by decide) (fun (h_102 : 5 ≤ ((s.1 1 (((s.1 9 ((s.2 10) - 1).toNatClampNeg) * 256) + (s.1 10 ((s.2 10) - 1).toNatClampNeg)).toNatClampNeg) &&& 255)) => ?_) (fun (h_102 : ¬ 5 ≤ ((s.1 1 (((s.1 9 ((s.2 10) - 1).toNatClampNeg) * 256) + (s.1 10 ((s.2 10) - 1).toNatClampNeg)).toNatClampNeg) &&& 255)) => ?_)
      · rw [if_pos h_102] at ho
        refine wm_iload C d_Model_oneStep_118 (j := 1) rfl ?_
        refine wm_bipush (v := 16) C d_Model_oneStep_120 (by decide) ?_
        refine wm_icmp_ge (tgt := 134) C d_Model_oneStep_122 (by decide) (fun (h_122 : 16 ≤ ((s.1 1 (((s.1 9 ((s.2 10) - 1).toNatClampNeg) * 256) + (s.1 10 ((s.2 10) - 1).toNatClampNeg)).toNatClampNeg) &&& 255)) => ?_) (fun (h_122 : ¬ 16 ≤ ((s.1 1 (((s.1 9 ((s.2 10) - 1).toNatClampNeg) * 256) + (s.1 10 ((s.2 10) - 1).toNatClampNeg)).toNatClampNeg) &&& 255)) => ?_)
        · rw [if_pos h_122] at ho
          refine wm_iload C d_Model_oneStep_134 (j := 1) rfl ?_
          refine wm_bipush (v := 19) C d_Model_oneStep_136 (by decide) ?_
          refine wm_icmp_ge (tgt := 157) C d_Model_oneStep_138 (by decide) (fun (h_138 : 19 ≤ ((s.1 1 (((s.1 9 ((s.2 10) - 1).toNatClampNeg) * 256) + (s.1 10 ((s.2 10) - 1).toNatClampNeg)).toNatClampNeg) &&& 255)) => ?_) (fun (h_138 : ¬ 19 ≤ ((s.1 1 (((s.1 9 ((s.2 10) - 1).toNatClampNeg) * 256) + (s.1 10 ((s.2 10) - 1).toNatClampNeg)).toNatClampNeg) &&& 255)) => ?_)
          · rw [if_pos h_138] at ho
            refine wm_iload C d_Model_oneStep_157 (j := 1) rfl ?_
            refine wm_bipush (v := 22) C d_Model_oneStep_159 (by decide) ?_
            refine wm_icmp_ge (tgt := 173) C d_Model_oneStep_161 (by decide) (fun (h_161 : 22 ≤ ((s.1 1 (((s.1 9 ((s.2 10) - 1).toNatClampNeg) * 256) + (s.1 10 ((s.2 10) - 1).toNatClampNeg)).toNatClampNeg) &&& 255)) => ?_) (fun (h_161 : ¬ 22 ≤ ((s.1 1 (((s.1 9 ((s.2 10) - 1).toNatClampNeg) * 256) + (s.1 10 ((s.2 10) - 1).toNatClampNeg)).toNatClampNeg) &&& 255)) => ?_)
            · rw [if_pos h_161] at ho
              refine wm_iload C d_Model_oneStep_173 (j := 1) rfl ?_
              refine wm_bipush (v := 25) C d_Model_oneStep_175 (by decide) ?_
              refine wm_icmp_ge (tgt := 189) C d_Model_oneStep_177 (by decide) (fun (h_177 : 25 ≤ ((s.1 1 (((s.1 9 ((s.2 10) - 1).toNatClampNeg) * 256) + (s.1 10 ((s.2 10) - 1).toNatClampNeg)).toNatClampNeg) &&& 255)) => ?_) (fun (h_177 : ¬ 25 ≤ ((s.1 1 (((s.1 9 ((s.2 10) - 1).toNatClampNeg) * 256) + (s.1 10 ((s.2 10) - 1).toNatClampNeg)).toNatClampNeg) &&& 255)) => ?_)
              · rw [if_pos h_177] at ho
                refine wm_iload C d_Model_oneStep_189 (j := 1) rfl ?_
                refine wm_bipush (v := 27) C d_Model_oneStep_191 (by decide) ?_
                refine wm_icmp_ge (tgt := 205) C d_Model_oneStep_193 (by decide) (fun (h_193 : 27 ≤ ((s.1 1 (((s.1 9 ((s.2 10) - 1).toNatClampNeg) * 256) + (s.1 10 ((s.2 10) - 1).toNatClampNeg)).toNatClampNeg) &&& 255)) => ?_) (fun (h_193 : ¬ 27 ≤ ((s.1 1 (((s.1 9 ((s.2 10) - 1).toNatClampNeg) * 256) + (s.1 10 ((s.2 10) - 1).toNatClampNeg)).toNatClampNeg) &&& 255)) => ?_)
                · rw [if_pos h_193] at ho
                  refine wm_aload_n C d_Model_oneStep_205 rfl (j := 5) rfl ?_
                  refine wm_iload C d_Model_oneStep_206 (j := 0) rfl ?_
                  refine wm_sipush (v := 255) C d_Model_oneStep_208 (by decide) ?_
                  refine wm_iand C d_Model_oneStep_211 ?_
                  refine wm_callV (d2 := 2) (mc := 0) (ms := 0) C mo_Model_call co_Model ml_Model_175 [.int (0 &&& 255)] [] rfl hR2.1 rfl (by decide) (Nat.le_of_ble_eq_true rfl) (Nat.le_refl _) (Nat.le_refl _) d_Model_oneStep_212 (cy_kv ?_)
                  obtain ⟨o5, ho⟩ := ho
                  refine k_call hD hR2 _ o5 (fun M3 hR3 => ⟨rfl, ?_⟩)
                  refine wm_vret C P d_Model_oneStep_215 ?_
                  have e : md_oneStep s = (md_call (md_sa (md_ss s 9 ((s.2 9) + 1)) 10 ((s.2 10) - 1) ((s.1 10 ((s.2 10) - 1).toNatClampNeg) + 1)) (0 &&& 255)) := by rw [md_oneStep, if_pos h_45, if_pos h_89, if_pos h_102, if_pos h_122, if_pos h_138, if_pos h_161, if_pos h_177, if_pos h_193]
                  rw [e] at h
                  exact h _ hR3
                · rw [if_neg h_193] at ho
                  refine wm_aload_n C d_Model_oneStep_196 rfl (j := 5) rfl ?_
                  refine wm_iload C d_Model_oneStep_197 (j := 1) rfl ?_
                  refine wm_callV (d2 := 2) (mc := 0) (ms := 0) C mo_Model_divide co_Model ml_Model_172 [.int ((s.1 1 (((s.1 9 ((s.2 10) - 1).toNatClampNeg) * 256) + (s.1 10 ((s.2 10) - 1).toNatClampNeg)).toNatClampNeg) &&& 255)] [] rfl hR2.1 rfl (by decide) (Nat.le_of_ble_eq_true rfl) (Nat.le_refl _) (Nat.le_refl _) d_Model_oneStep_199 (cy_kv ?_)
                  obtain ⟨o6, ho⟩ := ho
                  refine k_divide hD hR2 _ o6 (fun M4 hR4 => ⟨rfl, ?_⟩)
                  refine wm_goto (tgt := 215) C d_Model_oneStep_202 (by decide) ?_
                  refine wm_vret C P d_Model_oneStep_215 ?_
                  have e : md_oneStep s = (md_divide (md_sa (md_ss s 9 ((s.2 9) + 1)) 10 ((s.2 10) - 1) ((s.1 10 ((s.2 10) - 1).toNatClampNeg) + 1)) ((s.1 1 (((s.1 9 ((s.2 10) - 1).toNatClampNeg) * 256) + (s.1 10 ((s.2 10) - 1).toNatClampNeg)).toNatClampNeg) &&& 255)) := by rw [md_oneStep, if_pos h_45, if_pos h_89, if_pos h_102, if_pos h_122, if_pos h_138, if_pos h_161, if_pos h_177, if_neg h_193]
                  rw [e] at h
                  exact h _ hR4
              · rw [if_neg h_177] at ho
                refine wm_aload_n C d_Model_oneStep_180 rfl (j := 5) rfl ?_
                refine wm_iload C d_Model_oneStep_181 (j := 1) rfl ?_
                refine wm_callV (d2 := 2) (mc := 0) (ms := 0) C mo_Model_finish co_Model ml_Model_169 [.int ((s.1 1 (((s.1 9 ((s.2 10) - 1).toNatClampNeg) * 256) + (s.1 10 ((s.2 10) - 1).toNatClampNeg)).toNatClampNeg) &&& 255)] [] rfl hR2.1 rfl (by decide) (Nat.le_of_ble_eq_true rfl) (Nat.le_refl _) (Nat.le_refl _) d_Model_oneStep_183 (cy_kv ?_)
                obtain ⟨o7, ho⟩ := ho
                refine k_finish hD hR2 _ o7 (fun M5 hR5 => ⟨rfl, ?_⟩)
                refine wm_goto (tgt := 215) C d_Model_oneStep_186 (by decide) ?_
                refine wm_vret C P d_Model_oneStep_215 ?_
                have e : md_oneStep s = (md_finish (md_sa (md_ss s 9 ((s.2 9) + 1)) 10 ((s.2 10) - 1) ((s.1 10 ((s.2 10) - 1).toNatClampNeg) + 1)) ((s.1 1 (((s.1 9 ((s.2 10) - 1).toNatClampNeg) * 256) + (s.1 10 ((s.2 10) - 1).toNatClampNeg)).toNatClampNeg) &&& 255)) := by rw [md_oneStep, if_pos h_45, if_pos h_89, if_pos h_102, if_pos h_122, if_pos h_138, if_pos h_161, if_neg h_177]
                rw [e] at h
                exact h _ hR5
            · rw [if_neg h_161] at ho
              refine wm_aload_n C d_Model_oneStep_164 rfl (j := 5) rfl ?_
              refine wm_iload C d_Model_oneStep_165 (j := 1) rfl ?_
              refine wm_callV (d2 := 2) (mc := 0) (ms := 0) C mo_Model_bytes co_Model ml_Model_166 [.int ((s.1 1 (((s.1 9 ((s.2 10) - 1).toNatClampNeg) * 256) + (s.1 10 ((s.2 10) - 1).toNatClampNeg)).toNatClampNeg) &&& 255)] [] rfl hR2.1 rfl (by decide) (Nat.le_of_ble_eq_true rfl) (Nat.le_refl _) (Nat.le_refl _) d_Model_oneStep_167 (cy_kv ?_)
              obtain ⟨o8, ho⟩ := ho
              refine k_bytes hD hR2 _ o8 (fun M6 hR6 => ⟨rfl, ?_⟩)
              refine wm_goto (tgt := 215) C d_Model_oneStep_170 (by decide) ?_
              refine wm_vret C P d_Model_oneStep_215 ?_
              have e : md_oneStep s = (md_bytes (md_sa (md_ss s 9 ((s.2 9) + 1)) 10 ((s.2 10) - 1) ((s.1 10 ((s.2 10) - 1).toNatClampNeg) + 1)) ((s.1 1 (((s.1 9 ((s.2 10) - 1).toNatClampNeg) * 256) + (s.1 10 ((s.2 10) - 1).toNatClampNeg)).toNatClampNeg) &&& 255)) := by rw [md_oneStep, if_pos h_45, if_pos h_89, if_pos h_102, if_pos h_122, if_pos h_138, if_neg h_161]
              rw [e] at h
              exact h _ hR6
          · rw [if_neg h_138] at ho
            refine wm_aload_n C d_Model_oneStep_141 rfl (j := 5) rfl ?_
            refine wm_iload C d_Model_oneStep_142 (j := 1) rfl ?_
            refine wm_iload C d_Model_oneStep_144 (j := 0) rfl ?_
            refine wm_sipush (v := 255) C d_Model_oneStep_146 (by decide) ?_
            refine wm_iand C d_Model_oneStep_149 ?_
            refine wm_iload_n C d_Model_oneStep_150 rfl (j := 4) rfl ?_
            refine wm_callV (d2 := 1) (mc := 0) (ms := 0) C mo_Model_jumps co_Model ml_Model_162 [.int ((s.1 1 (((s.1 9 ((s.2 10) - 1).toNatClampNeg) * 256) + (s.1 10 ((s.2 10) - 1).toNatClampNeg)).toNatClampNeg) &&& 255), .int (0 &&& 255), .int ((s.2 10) - 1)] [] rfl hR2.1 rfl (by decide) (Nat.le_of_ble_eq_true rfl) (Nat.le_refl _) (Nat.le_refl _) d_Model_oneStep_151 (cy_kv ?_)
            obtain ⟨o9, ho⟩ := ho
            refine k_jumps hD hR2 _ _ _ o9 (fun M7 hR7 => ⟨rfl, ?_⟩)
            refine wm_goto (tgt := 215) C d_Model_oneStep_154 (by decide) ?_
            refine wm_vret C P d_Model_oneStep_215 ?_
            have e : md_oneStep s = (md_jumps (md_sa (md_ss s 9 ((s.2 9) + 1)) 10 ((s.2 10) - 1) ((s.1 10 ((s.2 10) - 1).toNatClampNeg) + 1)) ((s.1 1 (((s.1 9 ((s.2 10) - 1).toNatClampNeg) * 256) + (s.1 10 ((s.2 10) - 1).toNatClampNeg)).toNatClampNeg) &&& 255) (0 &&& 255) ((s.2 10) - 1)) := by rw [md_oneStep, if_pos h_45, if_pos h_89, if_pos h_102, if_pos h_122, if_neg h_138]
            rw [e] at h
            exact h _ hR7
        · rw [if_neg h_122] at ho
          refine wm_aload_n C d_Model_oneStep_125 rfl (j := 5) rfl ?_
          refine wm_iload C d_Model_oneStep_126 (j := 1) rfl ?_
          refine wm_callV (d2 := 1) (mc := 0) (ms := 0) C mo_Model_works co_Model ml_Model_159 [.int ((s.1 1 (((s.1 9 ((s.2 10) - 1).toNatClampNeg) * 256) + (s.1 10 ((s.2 10) - 1).toNatClampNeg)).toNatClampNeg) &&& 255)] [] rfl hR2.1 rfl (by decide) (Nat.le_of_ble_eq_true rfl) (Nat.le_refl _) (Nat.le_refl _) d_Model_oneStep_128 (cy_kv ?_)
          obtain ⟨o10, ho⟩ := ho
          refine k_works hD hR2 _ o10 (fun M8 hR8 => ⟨rfl, ?_⟩)
          refine wm_goto (tgt := 215) C d_Model_oneStep_131 (by decide) ?_
          refine wm_vret C P d_Model_oneStep_215 ?_
          have e : md_oneStep s = (md_works (md_sa (md_ss s 9 ((s.2 9) + 1)) 10 ((s.2 10) - 1) ((s.1 10 ((s.2 10) - 1).toNatClampNeg) + 1)) ((s.1 1 (((s.1 9 ((s.2 10) - 1).toNatClampNeg) * 256) + (s.1 10 ((s.2 10) - 1).toNatClampNeg)).toNatClampNeg) &&& 255)) := by rw [md_oneStep, if_pos h_45, if_pos h_89, if_pos h_102, if_neg h_122]
          rw [e] at h
          exact h _ hR8
      · rw [if_neg h_102] at ho
        refine wm_aload_n C d_Model_oneStep_105 rfl (j := 5) rfl ?_
        refine wm_iload C d_Model_oneStep_106 (j := 1) rfl ?_
        refine wm_iload C d_Model_oneStep_108 (j := 0) rfl ?_
        refine wm_iload_n C d_Model_oneStep_110 rfl (j := 4) rfl ?_
        refine wm_iload_n C d_Model_oneStep_111 rfl (j := 3) rfl ?_
        refine wm_callV (d2 := 1) (mc := 0) (ms := 0) C mo_Model_simple co_Model ml_Model_155 [.int ((s.1 1 (((s.1 9 ((s.2 10) - 1).toNatClampNeg) * 256) + (s.1 10 ((s.2 10) - 1).toNatClampNeg)).toNatClampNeg) &&& 255), .int 0, .int ((s.2 10) - 1), .int (s.1 9 ((s.2 10) - 1).toNatClampNeg)] [] rfl hR2.1 rfl (by decide) (Nat.le_of_ble_eq_true rfl) (Nat.le_refl _) (Nat.le_refl _) d_Model_oneStep_112 (cy_kv ?_)
        obtain ⟨o11, ho⟩ := ho
        refine k_simple hD hR2 _ _ _ _ o11 (fun M9 hR9 => ⟨rfl, ?_⟩)
        refine wm_goto (tgt := 215) C d_Model_oneStep_115 (by decide) ?_
        refine wm_vret C P d_Model_oneStep_215 ?_
        have e : md_oneStep s = (md_simple (md_sa (md_ss s 9 ((s.2 9) + 1)) 10 ((s.2 10) - 1) ((s.1 10 ((s.2 10) - 1).toNatClampNeg) + 1)) ((s.1 1 (((s.1 9 ((s.2 10) - 1).toNatClampNeg) * 256) + (s.1 10 ((s.2 10) - 1).toNatClampNeg)).toNatClampNeg) &&& 255) 0 ((s.2 10) - 1) (s.1 9 ((s.2 10) - 1).toNatClampNeg)) := by rw [md_oneStep, if_pos h_45, if_pos h_89, if_neg h_102]
        rw [e] at h
        exact h _ hR9
    · rw [if_neg h_89] at ho
      refine wm_iconst (v := 2) C d_Model_oneStep_92 (by decide) ?_
      refine wm_goto (tgt := 97) C d_Model_oneStep_93 (by decide) ?_
      refine wm_iadd C d_Model_oneStep_97 ?_
      obtain ⟨o12, ho⟩ := ho
      refine wm_iast C (md_arr hR1 10 (by decide)) hD.1 o12 d_Model_oneStep_98 ?_
      refine md_gen (md_R_sa hR1 (a := 10) (by decide) ((s.2 10) - 1) ((s.1 10 ((s.2 10) - 1).toNatClampNeg) + 2)) (fun M10 hR10 => ?_)
      refine wm_iload C d_Model_oneStep_99 (j := 1) rfl ?_
      refine wm_iconst (v := 5) C d_Model_oneStep_101 (by decide) ?_
      refine wm_icmp_ge (tgt := 118) C d_Model_oneStep_102 (by decide) (fun (h_102_9 : 5 ≤ ((s.1 1 (((s.1 9 ((s.2 10) - 1).toNatClampNeg) * 256) + (s.1 10 ((s.2 10) - 1).toNatClampNeg)).toNatClampNeg) &&& 255)) => ?_) (fun (h_102_9 : ¬ 5 ≤ ((s.1 1 (((s.1 9 ((s.2 10) - 1).toNatClampNeg) * 256) + (s.1 10 ((s.2 10) - 1).toNatClampNeg)).toNatClampNeg) &&& 255)) => ?_)
      · rw [if_pos h_102_9] at ho
        refine wm_iload C d_Model_oneStep_118 (j := 1) rfl ?_
        refine wm_bipush (v := 16) C d_Model_oneStep_120 (by decide) ?_
        refine wm_icmp_ge (tgt := 134) C d_Model_oneStep_122 (by decide) (fun (h_122_10 : 16 ≤ ((s.1 1 (((s.1 9 ((s.2 10) - 1).toNatClampNeg) * 256) + (s.1 10 ((s.2 10) - 1).toNatClampNeg)).toNatClampNeg) &&& 255)) => ?_) (fun (h_122_10 : ¬ 16 ≤ ((s.1 1 (((s.1 9 ((s.2 10) - 1).toNatClampNeg) * 256) + (s.1 10 ((s.2 10) - 1).toNatClampNeg)).toNatClampNeg) &&& 255)) => ?_)
        · rw [if_pos h_122_10] at ho
          refine wm_iload C d_Model_oneStep_134 (j := 1) rfl ?_
          refine wm_bipush (v := 19) C d_Model_oneStep_136 (by decide) ?_
          refine wm_icmp_ge (tgt := 157) C d_Model_oneStep_138 (by decide) (fun (h_138_11 : 19 ≤ ((s.1 1 (((s.1 9 ((s.2 10) - 1).toNatClampNeg) * 256) + (s.1 10 ((s.2 10) - 1).toNatClampNeg)).toNatClampNeg) &&& 255)) => ?_) (fun (h_138_11 : ¬ 19 ≤ ((s.1 1 (((s.1 9 ((s.2 10) - 1).toNatClampNeg) * 256) + (s.1 10 ((s.2 10) - 1).toNatClampNeg)).toNatClampNeg) &&& 255)) => ?_)
          · rw [if_pos h_138_11] at ho
            refine wm_iload C d_Model_oneStep_157 (j := 1) rfl ?_
            refine wm_bipush (v := 22) C d_Model_oneStep_159 (by decide) ?_
            refine wm_icmp_ge (tgt := 173) C d_Model_oneStep_161 (by decide) (fun (h_161_12 : 22 ≤ ((s.1 1 (((s.1 9 ((s.2 10) - 1).toNatClampNeg) * 256) + (s.1 10 ((s.2 10) - 1).toNatClampNeg)).toNatClampNeg) &&& 255)) => ?_) (fun (h_161_12 : ¬ 22 ≤ ((s.1 1 (((s.1 9 ((s.2 10) - 1).toNatClampNeg) * 256) + (s.1 10 ((s.2 10) - 1).toNatClampNeg)).toNatClampNeg) &&& 255)) => ?_)
            · rw [if_pos h_161_12] at ho
              refine wm_iload C d_Model_oneStep_173 (j := 1) rfl ?_
              refine wm_bipush (v := 25) C d_Model_oneStep_175 (by decide) ?_
              refine wm_icmp_ge (tgt := 189) C d_Model_oneStep_177 (by decide) (fun (h_177_13 : 25 ≤ ((s.1 1 (((s.1 9 ((s.2 10) - 1).toNatClampNeg) * 256) + (s.1 10 ((s.2 10) - 1).toNatClampNeg)).toNatClampNeg) &&& 255)) => ?_) (fun (h_177_13 : ¬ 25 ≤ ((s.1 1 (((s.1 9 ((s.2 10) - 1).toNatClampNeg) * 256) + (s.1 10 ((s.2 10) - 1).toNatClampNeg)).toNatClampNeg) &&& 255)) => ?_)
              · rw [if_pos h_177_13] at ho
                refine wm_iload C d_Model_oneStep_189 (j := 1) rfl ?_
                refine wm_bipush (v := 27) C d_Model_oneStep_191 (by decide) ?_
                refine wm_icmp_ge (tgt := 205) C d_Model_oneStep_193 (by decide) (fun (h_193_14 : 27 ≤ ((s.1 1 (((s.1 9 ((s.2 10) - 1).toNatClampNeg) * 256) + (s.1 10 ((s.2 10) - 1).toNatClampNeg)).toNatClampNeg) &&& 255)) => ?_) (fun (h_193_14 : ¬ 27 ≤ ((s.1 1 (((s.1 9 ((s.2 10) - 1).toNatClampNeg) * 256) + (s.1 10 ((s.2 10) - 1).toNatClampNeg)).toNatClampNeg) &&& 255)) => ?_)
                · rw [if_pos h_193_14] at ho
                  refine wm_aload_n C d_Model_oneStep_205 rfl (j := 5) rfl ?_
                  refine wm_iload C d_Model_oneStep_206 (j := 0) rfl ?_
                  refine wm_sipush (v := 255) C d_Model_oneStep_208 (by decide) ?_
                  refine wm_iand C d_Model_oneStep_211 ?_
                  refine wm_callV (d2 := 2) (mc := 0) (ms := 0) C mo_Model_call co_Model ml_Model_175 [.int (0 &&& 255)] [] rfl hR10.1 rfl (by decide) (Nat.le_of_ble_eq_true rfl) (Nat.le_refl _) (Nat.le_refl _) d_Model_oneStep_212 (cy_kv ?_)
                  obtain ⟨o13, ho⟩ := ho
                  refine k_call hD hR10 _ o13 (fun M11 hR11 => ⟨rfl, ?_⟩)
                  refine wm_vret C P d_Model_oneStep_215 ?_
                  have e : md_oneStep s = (md_call (md_sa (md_ss s 9 ((s.2 9) + 1)) 10 ((s.2 10) - 1) ((s.1 10 ((s.2 10) - 1).toNatClampNeg) + 2)) (0 &&& 255)) := by rw [md_oneStep, if_pos h_45, if_neg h_89, if_pos h_102_9, if_pos h_122_10, if_pos h_138_11, if_pos h_161_12, if_pos h_177_13, if_pos h_193_14]
                  rw [e] at h
                  exact h _ hR11
                · rw [if_neg h_193_14] at ho
                  refine wm_aload_n C d_Model_oneStep_196 rfl (j := 5) rfl ?_
                  refine wm_iload C d_Model_oneStep_197 (j := 1) rfl ?_
                  refine wm_callV (d2 := 2) (mc := 0) (ms := 0) C mo_Model_divide co_Model ml_Model_172 [.int ((s.1 1 (((s.1 9 ((s.2 10) - 1).toNatClampNeg) * 256) + (s.1 10 ((s.2 10) - 1).toNatClampNeg)).toNatClampNeg) &&& 255)] [] rfl hR10.1 rfl (by decide) (Nat.le_of_ble_eq_true rfl) (Nat.le_refl _) (Nat.le_refl _) d_Model_oneStep_199 (cy_kv ?_)
                  obtain ⟨o14, ho⟩ := ho
                  refine k_divide hD hR10 _ o14 (fun M12 hR12 => ⟨rfl, ?_⟩)
                  refine wm_goto (tgt := 215) C d_Model_oneStep_202 (by decide) ?_
                  refine wm_vret C P d_Model_oneStep_215 ?_
                  have e : md_oneStep s = (md_divide (md_sa (md_ss s 9 ((s.2 9) + 1)) 10 ((s.2 10) - 1) ((s.1 10 ((s.2 10) - 1).toNatClampNeg) + 2)) ((s.1 1 (((s.1 9 ((s.2 10) - 1).toNatClampNeg) * 256) + (s.1 10 ((s.2 10) - 1).toNatClampNeg)).toNatClampNeg) &&& 255)) := by rw [md_oneStep, if_pos h_45, if_neg h_89, if_pos h_102_9, if_pos h_122_10, if_pos h_138_11, if_pos h_161_12, if_pos h_177_13, if_neg h_193_14]
                  rw [e] at h
                  exact h _ hR12
              · rw [if_neg h_177_13] at ho
                refine wm_aload_n C d_Model_oneStep_180 rfl (j := 5) rfl ?_
                refine wm_iload C d_Model_oneStep_181 (j := 1) rfl ?_
                refine wm_callV (d2 := 2) (mc := 0) (ms := 0) C mo_Model_finish co_Model ml_Model_169 [.int ((s.1 1 (((s.1 9 ((s.2 10) - 1).toNatClampNeg) * 256) + (s.1 10 ((s.2 10) - 1).toNatClampNeg)).toNatClampNeg) &&& 255)] [] rfl hR10.1 rfl (by decide) (Nat.le_of_ble_eq_true rfl) (Nat.le_refl _) (Nat.le_refl _) d_Model_oneStep_183 (cy_kv ?_)
                obtain ⟨o15, ho⟩ := ho
                refine k_finish hD hR10 _ o15 (fun M13 hR13 => ⟨rfl, ?_⟩)
                refine wm_goto (tgt := 215) C d_Model_oneStep_186 (by decide) ?_
                refine wm_vret C P d_Model_oneStep_215 ?_
                have e : md_oneStep s = (md_finish (md_sa (md_ss s 9 ((s.2 9) + 1)) 10 ((s.2 10) - 1) ((s.1 10 ((s.2 10) - 1).toNatClampNeg) + 2)) ((s.1 1 (((s.1 9 ((s.2 10) - 1).toNatClampNeg) * 256) + (s.1 10 ((s.2 10) - 1).toNatClampNeg)).toNatClampNeg) &&& 255)) := by rw [md_oneStep, if_pos h_45, if_neg h_89, if_pos h_102_9, if_pos h_122_10, if_pos h_138_11, if_pos h_161_12, if_neg h_177_13]
                rw [e] at h
                exact h _ hR13
            · rw [if_neg h_161_12] at ho
              refine wm_aload_n C d_Model_oneStep_164 rfl (j := 5) rfl ?_
              refine wm_iload C d_Model_oneStep_165 (j := 1) rfl ?_
              refine wm_callV (d2 := 2) (mc := 0) (ms := 0) C mo_Model_bytes co_Model ml_Model_166 [.int ((s.1 1 (((s.1 9 ((s.2 10) - 1).toNatClampNeg) * 256) + (s.1 10 ((s.2 10) - 1).toNatClampNeg)).toNatClampNeg) &&& 255)] [] rfl hR10.1 rfl (by decide) (Nat.le_of_ble_eq_true rfl) (Nat.le_refl _) (Nat.le_refl _) d_Model_oneStep_167 (cy_kv ?_)
              obtain ⟨o16, ho⟩ := ho
              refine k_bytes hD hR10 _ o16 (fun M14 hR14 => ⟨rfl, ?_⟩)
              refine wm_goto (tgt := 215) C d_Model_oneStep_170 (by decide) ?_
              refine wm_vret C P d_Model_oneStep_215 ?_
              have e : md_oneStep s = (md_bytes (md_sa (md_ss s 9 ((s.2 9) + 1)) 10 ((s.2 10) - 1) ((s.1 10 ((s.2 10) - 1).toNatClampNeg) + 2)) ((s.1 1 (((s.1 9 ((s.2 10) - 1).toNatClampNeg) * 256) + (s.1 10 ((s.2 10) - 1).toNatClampNeg)).toNatClampNeg) &&& 255)) := by rw [md_oneStep, if_pos h_45, if_neg h_89, if_pos h_102_9, if_pos h_122_10, if_pos h_138_11, if_neg h_161_12]
              rw [e] at h
              exact h _ hR14
          · rw [if_neg h_138_11] at ho
            refine wm_aload_n C d_Model_oneStep_141 rfl (j := 5) rfl ?_
            refine wm_iload C d_Model_oneStep_142 (j := 1) rfl ?_
            refine wm_iload C d_Model_oneStep_144 (j := 0) rfl ?_
            refine wm_sipush (v := 255) C d_Model_oneStep_146 (by decide) ?_
            refine wm_iand C d_Model_oneStep_149 ?_
            refine wm_iload_n C d_Model_oneStep_150 rfl (j := 4) rfl ?_
            refine wm_callV (d2 := 1) (mc := 0) (ms := 0) C mo_Model_jumps co_Model ml_Model_162 [.int ((s.1 1 (((s.1 9 ((s.2 10) - 1).toNatClampNeg) * 256) + (s.1 10 ((s.2 10) - 1).toNatClampNeg)).toNatClampNeg) &&& 255), .int (0 &&& 255), .int ((s.2 10) - 1)] [] rfl hR10.1 rfl (by decide) (Nat.le_of_ble_eq_true rfl) (Nat.le_refl _) (Nat.le_refl _) d_Model_oneStep_151 (cy_kv ?_)
            obtain ⟨o17, ho⟩ := ho
            refine k_jumps hD hR10 _ _ _ o17 (fun M15 hR15 => ⟨rfl, ?_⟩)
            refine wm_goto (tgt := 215) C d_Model_oneStep_154 (by decide) ?_
            refine wm_vret C P d_Model_oneStep_215 ?_
            have e : md_oneStep s = (md_jumps (md_sa (md_ss s 9 ((s.2 9) + 1)) 10 ((s.2 10) - 1) ((s.1 10 ((s.2 10) - 1).toNatClampNeg) + 2)) ((s.1 1 (((s.1 9 ((s.2 10) - 1).toNatClampNeg) * 256) + (s.1 10 ((s.2 10) - 1).toNatClampNeg)).toNatClampNeg) &&& 255) (0 &&& 255) ((s.2 10) - 1)) := by rw [md_oneStep, if_pos h_45, if_neg h_89, if_pos h_102_9, if_pos h_122_10, if_neg h_138_11]
            rw [e] at h
            exact h _ hR15
        · rw [if_neg h_122_10] at ho
          refine wm_aload_n C d_Model_oneStep_125 rfl (j := 5) rfl ?_
          refine wm_iload C d_Model_oneStep_126 (j := 1) rfl ?_
          refine wm_callV (d2 := 1) (mc := 0) (ms := 0) C mo_Model_works co_Model ml_Model_159 [.int ((s.1 1 (((s.1 9 ((s.2 10) - 1).toNatClampNeg) * 256) + (s.1 10 ((s.2 10) - 1).toNatClampNeg)).toNatClampNeg) &&& 255)] [] rfl hR10.1 rfl (by decide) (Nat.le_of_ble_eq_true rfl) (Nat.le_refl _) (Nat.le_refl _) d_Model_oneStep_128 (cy_kv ?_)
          obtain ⟨o18, ho⟩ := ho
          refine k_works hD hR10 _ o18 (fun M16 hR16 => ⟨rfl, ?_⟩)
          refine wm_goto (tgt := 215) C d_Model_oneStep_131 (by decide) ?_
          refine wm_vret C P d_Model_oneStep_215 ?_
          have e : md_oneStep s = (md_works (md_sa (md_ss s 9 ((s.2 9) + 1)) 10 ((s.2 10) - 1) ((s.1 10 ((s.2 10) - 1).toNatClampNeg) + 2)) ((s.1 1 (((s.1 9 ((s.2 10) - 1).toNatClampNeg) * 256) + (s.1 10 ((s.2 10) - 1).toNatClampNeg)).toNatClampNeg) &&& 255)) := by rw [md_oneStep, if_pos h_45, if_neg h_89, if_pos h_102_9, if_neg h_122_10]
          rw [e] at h
          exact h _ hR16
      · rw [if_neg h_102_9] at ho
        refine wm_aload_n C d_Model_oneStep_105 rfl (j := 5) rfl ?_
        refine wm_iload C d_Model_oneStep_106 (j := 1) rfl ?_
        refine wm_iload C d_Model_oneStep_108 (j := 0) rfl ?_
        refine wm_iload_n C d_Model_oneStep_110 rfl (j := 4) rfl ?_
        refine wm_iload_n C d_Model_oneStep_111 rfl (j := 3) rfl ?_
        refine wm_callV (d2 := 1) (mc := 0) (ms := 0) C mo_Model_simple co_Model ml_Model_155 [.int ((s.1 1 (((s.1 9 ((s.2 10) - 1).toNatClampNeg) * 256) + (s.1 10 ((s.2 10) - 1).toNatClampNeg)).toNatClampNeg) &&& 255), .int 0, .int ((s.2 10) - 1), .int (s.1 9 ((s.2 10) - 1).toNatClampNeg)] [] rfl hR10.1 rfl (by decide) (Nat.le_of_ble_eq_true rfl) (Nat.le_refl _) (Nat.le_refl _) d_Model_oneStep_112 (cy_kv ?_)
        obtain ⟨o19, ho⟩ := ho
        refine k_simple hD hR10 _ _ _ _ o19 (fun M17 hR17 => ⟨rfl, ?_⟩)
        refine wm_goto (tgt := 215) C d_Model_oneStep_115 (by decide) ?_
        refine wm_vret C P d_Model_oneStep_215 ?_
        have e : md_oneStep s = (md_simple (md_sa (md_ss s 9 ((s.2 9) + 1)) 10 ((s.2 10) - 1) ((s.1 10 ((s.2 10) - 1).toNatClampNeg) + 2)) ((s.1 1 (((s.1 9 ((s.2 10) - 1).toNatClampNeg) * 256) + (s.1 10 ((s.2 10) - 1).toNatClampNeg)).toNatClampNeg) &&& 255) 0 ((s.2 10) - 1) (s.1 9 ((s.2 10) - 1).toNatClampNeg)) := by rw [md_oneStep, if_pos h_45, if_neg h_89, if_neg h_102_9]
        rw [e] at h
        exact h _ hR17
  · rw [if_neg h_45] at ho
    refine wm_aload_n C d_Model_oneStep_48 rfl (j := 4) rfl ?_
    refine wm_get C co_Model hR.1 2 (by decide) fl_Model_13 rfl d_Model_oneStep_49 ?_
    refine wm_iload_n C d_Model_oneStep_52 rfl (j := 2) rfl ?_
    refine wm_sipush (v := 256) C d_Model_oneStep_53 (by decide) ?_
    refine wm_imul C d_Model_oneStep_56 ?_
    refine wm_iload_n C d_Model_oneStep_57 rfl (j := 1) rfl ?_
    refine wm_iadd C d_Model_oneStep_58 ?_
    refine wm_iconst (v := 1) C d_Model_oneStep_59 (by decide) ?_
    refine wm_iadd C d_Model_oneStep_60 ?_
    obtain ⟨o20, ho⟩ := ho
    refine wm_bald C (md_arr hR 1 (by decide)) hD.2.1 o20 d_Model_oneStep_61 ?_
    refine wm_goto (tgt := 66) C d_Model_oneStep_62 (by decide) ?_
    refine wm_istore (lv' := [(5, .int (s.1 1 ((((s.1 9 ((s.2 10) - 1).toNatClampNeg) * 256) + (s.1 10 ((s.2 10) - 1).toNatClampNeg)) + 1).toNatClampNeg)), (4, .int ((s.1 1 (((s.1 9 ((s.2 10) - 1).toNatClampNeg) * 256) + (s.1 10 ((s.2 10) - 1).toNatClampNeg)).toNatClampNeg) &&& 255)), (3, .int (s.1 10 ((s.2 10) - 1).toNatClampNeg)), (2, .int (s.1 9 ((s.2 10) - 1).toNatClampNeg)), (1, .int ((s.2 10) - 1)), (0, .ref D.2.2.2.1)]) C d_Model_oneStep_66 (by decide) rfl ?_
    refine wm_aload_n C d_Model_oneStep_68 rfl (j := 5) rfl ?_
    refine wm_dup C d_Model_oneStep_69 rfl ?_
    refine wm_get C co_Model hR.1 18 (by decide) fl_Model_137 rfl d_Model_oneStep_70 ?_
    refine wm_iconst (v := 1) C d_Model_oneStep_73 (by decide) ?_
    refine wm_iadd C d_Model_oneStep_74 ?_
    refine wm_put C co_Model hR.1 18 (by decide) fl_Model_137 rfl rfl rfl (Nat.le_of_ble_eq_true rfl) d_Model_oneStep_75 ?_
    refine md_gen (md_R_ss hR 9 ((s.2 9) + 1)) (fun M18 hR18 => ?_)
    refine wm_aload_n C d_Model_oneStep_78 rfl (j := 5) rfl ?_
    refine wm_get C co_Model hR18.1 21 (by decide) fl_Model_42 rfl d_Model_oneStep_79 ?_
    refine wm_iload_n C d_Model_oneStep_82 rfl (j := 4) rfl ?_
    refine wm_iload_n C d_Model_oneStep_83 rfl (j := 2) rfl ?_
    refine wm_iload C d_Model_oneStep_84 (j := 1) rfl ?_
    refine wm_callS (d2 := 0) (mc := 0) (ms := 0) C mo_Model_hasOperand ml_Model_85 [.int ((s.1 1 (((s.1 9 ((s.2 10) - 1).toNatClampNeg) * 256) + (s.1 10 ((s.2 10) - 1).toNatClampNeg)).toNatClampNeg) &&& 255)] [.int (s.1 10 ((s.2 10) - 1).toNatClampNeg), .int ((s.2 10) - 1), .ref (D.2.2.2.1 + 11)] rfl rfl (by decide) (Nat.le_of_ble_eq_true rfl) (Nat.le_refl _) (Nat.le_refl _) d_Model_oneStep_86 (cy_ki ?_)
    refine k_hasOperand hD hR18 _  ⟨_, rfl, ?_⟩
    refine wm_if_eq (tgt := 96) C d_Model_oneStep_89 (by decide) (fun (h_89_15 : (md_hasOperand ((s.1 1 (((s.1 9 ((s.2 10) - 1).toNatClampNeg) * 256) + (s.1 10 ((s.2 10) - 1).toNatClampNeg)).toNatClampNeg) &&& 255)) = 0) => ?_) (fun (h_89_15 : ¬ (md_hasOperand ((s.1 1 (((s.1 9 ((s.2 10) - 1).toNatClampNeg) * 256) + (s.1 10 ((s.2 10) - 1).toNatClampNeg)).toNatClampNeg) &&& 255)) = 0) => ?_)
    · rw [if_pos h_89_15] at ho
      refine wm_iconst (v := 1) C d_Model_oneStep_96 (by decide) ?_
      refine wm_iadd C d_Model_oneStep_97 ?_
      obtain ⟨o21, ho⟩ := ho
      refine wm_iast C (md_arr hR18 10 (by decide)) hD.1 o21 d_Model_oneStep_98 ?_
      refine md_gen (md_R_sa hR18 (a := 10) (by decide) ((s.2 10) - 1) ((s.1 10 ((s.2 10) - 1).toNatClampNeg) + 1)) (fun M19 hR19 => ?_)
      refine wm_iload C d_Model_oneStep_99 (j := 1) rfl ?_
      refine wm_iconst (v := 5) C d_Model_oneStep_101 (by decide) ?_
      refine wm_icmp_ge (tgt := 118) C d_Model_oneStep_102 (by decide) (fun (h_102_16 : 5 ≤ ((s.1 1 (((s.1 9 ((s.2 10) - 1).toNatClampNeg) * 256) + (s.1 10 ((s.2 10) - 1).toNatClampNeg)).toNatClampNeg) &&& 255)) => ?_) (fun (h_102_16 : ¬ 5 ≤ ((s.1 1 (((s.1 9 ((s.2 10) - 1).toNatClampNeg) * 256) + (s.1 10 ((s.2 10) - 1).toNatClampNeg)).toNatClampNeg) &&& 255)) => ?_)
      · rw [if_pos h_102_16] at ho
        refine wm_iload C d_Model_oneStep_118 (j := 1) rfl ?_
        refine wm_bipush (v := 16) C d_Model_oneStep_120 (by decide) ?_
        refine wm_icmp_ge (tgt := 134) C d_Model_oneStep_122 (by decide) (fun (h_122_17 : 16 ≤ ((s.1 1 (((s.1 9 ((s.2 10) - 1).toNatClampNeg) * 256) + (s.1 10 ((s.2 10) - 1).toNatClampNeg)).toNatClampNeg) &&& 255)) => ?_) (fun (h_122_17 : ¬ 16 ≤ ((s.1 1 (((s.1 9 ((s.2 10) - 1).toNatClampNeg) * 256) + (s.1 10 ((s.2 10) - 1).toNatClampNeg)).toNatClampNeg) &&& 255)) => ?_)
        · rw [if_pos h_122_17] at ho
          refine wm_iload C d_Model_oneStep_134 (j := 1) rfl ?_
          refine wm_bipush (v := 19) C d_Model_oneStep_136 (by decide) ?_
          refine wm_icmp_ge (tgt := 157) C d_Model_oneStep_138 (by decide) (fun (h_138_18 : 19 ≤ ((s.1 1 (((s.1 9 ((s.2 10) - 1).toNatClampNeg) * 256) + (s.1 10 ((s.2 10) - 1).toNatClampNeg)).toNatClampNeg) &&& 255)) => ?_) (fun (h_138_18 : ¬ 19 ≤ ((s.1 1 (((s.1 9 ((s.2 10) - 1).toNatClampNeg) * 256) + (s.1 10 ((s.2 10) - 1).toNatClampNeg)).toNatClampNeg) &&& 255)) => ?_)
          · rw [if_pos h_138_18] at ho
            refine wm_iload C d_Model_oneStep_157 (j := 1) rfl ?_
            refine wm_bipush (v := 22) C d_Model_oneStep_159 (by decide) ?_
            refine wm_icmp_ge (tgt := 173) C d_Model_oneStep_161 (by decide) (fun (h_161_19 : 22 ≤ ((s.1 1 (((s.1 9 ((s.2 10) - 1).toNatClampNeg) * 256) + (s.1 10 ((s.2 10) - 1).toNatClampNeg)).toNatClampNeg) &&& 255)) => ?_) (fun (h_161_19 : ¬ 22 ≤ ((s.1 1 (((s.1 9 ((s.2 10) - 1).toNatClampNeg) * 256) + (s.1 10 ((s.2 10) - 1).toNatClampNeg)).toNatClampNeg) &&& 255)) => ?_)
            · rw [if_pos h_161_19] at ho
              refine wm_iload C d_Model_oneStep_173 (j := 1) rfl ?_
              refine wm_bipush (v := 25) C d_Model_oneStep_175 (by decide) ?_
              refine wm_icmp_ge (tgt := 189) C d_Model_oneStep_177 (by decide) (fun (h_177_20 : 25 ≤ ((s.1 1 (((s.1 9 ((s.2 10) - 1).toNatClampNeg) * 256) + (s.1 10 ((s.2 10) - 1).toNatClampNeg)).toNatClampNeg) &&& 255)) => ?_) (fun (h_177_20 : ¬ 25 ≤ ((s.1 1 (((s.1 9 ((s.2 10) - 1).toNatClampNeg) * 256) + (s.1 10 ((s.2 10) - 1).toNatClampNeg)).toNatClampNeg) &&& 255)) => ?_)
              · rw [if_pos h_177_20] at ho
                refine wm_iload C d_Model_oneStep_189 (j := 1) rfl ?_
                refine wm_bipush (v := 27) C d_Model_oneStep_191 (by decide) ?_
                refine wm_icmp_ge (tgt := 205) C d_Model_oneStep_193 (by decide) (fun (h_193_21 : 27 ≤ ((s.1 1 (((s.1 9 ((s.2 10) - 1).toNatClampNeg) * 256) + (s.1 10 ((s.2 10) - 1).toNatClampNeg)).toNatClampNeg) &&& 255)) => ?_) (fun (h_193_21 : ¬ 27 ≤ ((s.1 1 (((s.1 9 ((s.2 10) - 1).toNatClampNeg) * 256) + (s.1 10 ((s.2 10) - 1).toNatClampNeg)).toNatClampNeg) &&& 255)) => ?_)
                · rw [if_pos h_193_21] at ho
                  refine wm_aload_n C d_Model_oneStep_205 rfl (j := 5) rfl ?_
                  refine wm_iload C d_Model_oneStep_206 (j := 0) rfl ?_
                  refine wm_sipush (v := 255) C d_Model_oneStep_208 (by decide) ?_
                  refine wm_iand C d_Model_oneStep_211 ?_
                  refine wm_callV (d2 := 2) (mc := 0) (ms := 0) C mo_Model_call co_Model ml_Model_175 [.int ((s.1 1 ((((s.1 9 ((s.2 10) - 1).toNatClampNeg) * 256) + (s.1 10 ((s.2 10) - 1).toNatClampNeg)) + 1).toNatClampNeg) &&& 255)] [] rfl hR19.1 rfl (by decide) (Nat.le_of_ble_eq_true rfl) (Nat.le_refl _) (Nat.le_refl _) d_Model_oneStep_212 (cy_kv ?_)
                  obtain ⟨o22, ho⟩ := ho
                  refine k_call hD hR19 _ o22 (fun M20 hR20 => ⟨rfl, ?_⟩)
                  refine wm_vret C P d_Model_oneStep_215 ?_
                  have e : md_oneStep s = (md_call (md_sa (md_ss s 9 ((s.2 9) + 1)) 10 ((s.2 10) - 1) ((s.1 10 ((s.2 10) - 1).toNatClampNeg) + 1)) ((s.1 1 ((((s.1 9 ((s.2 10) - 1).toNatClampNeg) * 256) + (s.1 10 ((s.2 10) - 1).toNatClampNeg)) + 1).toNatClampNeg) &&& 255)) := by rw [md_oneStep, if_neg h_45, if_pos h_89_15, if_pos h_102_16, if_pos h_122_17, if_pos h_138_18, if_pos h_161_19, if_pos h_177_20, if_pos h_193_21]
                  rw [e] at h
                  exact h _ hR20
                · rw [if_neg h_193_21] at ho
                  refine wm_aload_n C d_Model_oneStep_196 rfl (j := 5) rfl ?_
                  refine wm_iload C d_Model_oneStep_197 (j := 1) rfl ?_
                  refine wm_callV (d2 := 2) (mc := 0) (ms := 0) C mo_Model_divide co_Model ml_Model_172 [.int ((s.1 1 (((s.1 9 ((s.2 10) - 1).toNatClampNeg) * 256) + (s.1 10 ((s.2 10) - 1).toNatClampNeg)).toNatClampNeg) &&& 255)] [] rfl hR19.1 rfl (by decide) (Nat.le_of_ble_eq_true rfl) (Nat.le_refl _) (Nat.le_refl _) d_Model_oneStep_199 (cy_kv ?_)
                  obtain ⟨o23, ho⟩ := ho
                  refine k_divide hD hR19 _ o23 (fun M21 hR21 => ⟨rfl, ?_⟩)
                  refine wm_goto (tgt := 215) C d_Model_oneStep_202 (by decide) ?_
                  refine wm_vret C P d_Model_oneStep_215 ?_
                  have e : md_oneStep s = (md_divide (md_sa (md_ss s 9 ((s.2 9) + 1)) 10 ((s.2 10) - 1) ((s.1 10 ((s.2 10) - 1).toNatClampNeg) + 1)) ((s.1 1 (((s.1 9 ((s.2 10) - 1).toNatClampNeg) * 256) + (s.1 10 ((s.2 10) - 1).toNatClampNeg)).toNatClampNeg) &&& 255)) := by rw [md_oneStep, if_neg h_45, if_pos h_89_15, if_pos h_102_16, if_pos h_122_17, if_pos h_138_18, if_pos h_161_19, if_pos h_177_20, if_neg h_193_21]
                  rw [e] at h
                  exact h _ hR21
              · rw [if_neg h_177_20] at ho
                refine wm_aload_n C d_Model_oneStep_180 rfl (j := 5) rfl ?_
                refine wm_iload C d_Model_oneStep_181 (j := 1) rfl ?_
                refine wm_callV (d2 := 2) (mc := 0) (ms := 0) C mo_Model_finish co_Model ml_Model_169 [.int ((s.1 1 (((s.1 9 ((s.2 10) - 1).toNatClampNeg) * 256) + (s.1 10 ((s.2 10) - 1).toNatClampNeg)).toNatClampNeg) &&& 255)] [] rfl hR19.1 rfl (by decide) (Nat.le_of_ble_eq_true rfl) (Nat.le_refl _) (Nat.le_refl _) d_Model_oneStep_183 (cy_kv ?_)
                obtain ⟨o24, ho⟩ := ho
                refine k_finish hD hR19 _ o24 (fun M22 hR22 => ⟨rfl, ?_⟩)
                refine wm_goto (tgt := 215) C d_Model_oneStep_186 (by decide) ?_
                refine wm_vret C P d_Model_oneStep_215 ?_
                have e : md_oneStep s = (md_finish (md_sa (md_ss s 9 ((s.2 9) + 1)) 10 ((s.2 10) - 1) ((s.1 10 ((s.2 10) - 1).toNatClampNeg) + 1)) ((s.1 1 (((s.1 9 ((s.2 10) - 1).toNatClampNeg) * 256) + (s.1 10 ((s.2 10) - 1).toNatClampNeg)).toNatClampNeg) &&& 255)) := by rw [md_oneStep, if_neg h_45, if_pos h_89_15, if_pos h_102_16, if_pos h_122_17, if_pos h_138_18, if_pos h_161_19, if_neg h_177_20]
                rw [e] at h
                exact h _ hR22
            · rw [if_neg h_161_19] at ho
              refine wm_aload_n C d_Model_oneStep_164 rfl (j := 5) rfl ?_
              refine wm_iload C d_Model_oneStep_165 (j := 1) rfl ?_
              refine wm_callV (d2 := 2) (mc := 0) (ms := 0) C mo_Model_bytes co_Model ml_Model_166 [.int ((s.1 1 (((s.1 9 ((s.2 10) - 1).toNatClampNeg) * 256) + (s.1 10 ((s.2 10) - 1).toNatClampNeg)).toNatClampNeg) &&& 255)] [] rfl hR19.1 rfl (by decide) (Nat.le_of_ble_eq_true rfl) (Nat.le_refl _) (Nat.le_refl _) d_Model_oneStep_167 (cy_kv ?_)
              obtain ⟨o25, ho⟩ := ho
              refine k_bytes hD hR19 _ o25 (fun M23 hR23 => ⟨rfl, ?_⟩)
              refine wm_goto (tgt := 215) C d_Model_oneStep_170 (by decide) ?_
              refine wm_vret C P d_Model_oneStep_215 ?_
              have e : md_oneStep s = (md_bytes (md_sa (md_ss s 9 ((s.2 9) + 1)) 10 ((s.2 10) - 1) ((s.1 10 ((s.2 10) - 1).toNatClampNeg) + 1)) ((s.1 1 (((s.1 9 ((s.2 10) - 1).toNatClampNeg) * 256) + (s.1 10 ((s.2 10) - 1).toNatClampNeg)).toNatClampNeg) &&& 255)) := by rw [md_oneStep, if_neg h_45, if_pos h_89_15, if_pos h_102_16, if_pos h_122_17, if_pos h_138_18, if_neg h_161_19]
              rw [e] at h
              exact h _ hR23
          · rw [if_neg h_138_18] at ho
            refine wm_aload_n C d_Model_oneStep_141 rfl (j := 5) rfl ?_
            refine wm_iload C d_Model_oneStep_142 (j := 1) rfl ?_
            refine wm_iload C d_Model_oneStep_144 (j := 0) rfl ?_
            refine wm_sipush (v := 255) C d_Model_oneStep_146 (by decide) ?_
            refine wm_iand C d_Model_oneStep_149 ?_
            refine wm_iload_n C d_Model_oneStep_150 rfl (j := 4) rfl ?_
            refine wm_callV (d2 := 1) (mc := 0) (ms := 0) C mo_Model_jumps co_Model ml_Model_162 [.int ((s.1 1 (((s.1 9 ((s.2 10) - 1).toNatClampNeg) * 256) + (s.1 10 ((s.2 10) - 1).toNatClampNeg)).toNatClampNeg) &&& 255), .int ((s.1 1 ((((s.1 9 ((s.2 10) - 1).toNatClampNeg) * 256) + (s.1 10 ((s.2 10) - 1).toNatClampNeg)) + 1).toNatClampNeg) &&& 255), .int ((s.2 10) - 1)] [] rfl hR19.1 rfl (by decide) (Nat.le_of_ble_eq_true rfl) (Nat.le_refl _) (Nat.le_refl _) d_Model_oneStep_151 (cy_kv ?_)
            obtain ⟨o26, ho⟩ := ho
            refine k_jumps hD hR19 _ _ _ o26 (fun M24 hR24 => ⟨rfl, ?_⟩)
            refine wm_goto (tgt := 215) C d_Model_oneStep_154 (by decide) ?_
            refine wm_vret C P d_Model_oneStep_215 ?_
            have e : md_oneStep s = (md_jumps (md_sa (md_ss s 9 ((s.2 9) + 1)) 10 ((s.2 10) - 1) ((s.1 10 ((s.2 10) - 1).toNatClampNeg) + 1)) ((s.1 1 (((s.1 9 ((s.2 10) - 1).toNatClampNeg) * 256) + (s.1 10 ((s.2 10) - 1).toNatClampNeg)).toNatClampNeg) &&& 255) ((s.1 1 ((((s.1 9 ((s.2 10) - 1).toNatClampNeg) * 256) + (s.1 10 ((s.2 10) - 1).toNatClampNeg)) + 1).toNatClampNeg) &&& 255) ((s.2 10) - 1)) := by rw [md_oneStep, if_neg h_45, if_pos h_89_15, if_pos h_102_16, if_pos h_122_17, if_neg h_138_18]
            rw [e] at h
            exact h _ hR24
        · rw [if_neg h_122_17] at ho
          refine wm_aload_n C d_Model_oneStep_125 rfl (j := 5) rfl ?_
          refine wm_iload C d_Model_oneStep_126 (j := 1) rfl ?_
          refine wm_callV (d2 := 1) (mc := 0) (ms := 0) C mo_Model_works co_Model ml_Model_159 [.int ((s.1 1 (((s.1 9 ((s.2 10) - 1).toNatClampNeg) * 256) + (s.1 10 ((s.2 10) - 1).toNatClampNeg)).toNatClampNeg) &&& 255)] [] rfl hR19.1 rfl (by decide) (Nat.le_of_ble_eq_true rfl) (Nat.le_refl _) (Nat.le_refl _) d_Model_oneStep_128 (cy_kv ?_)
          obtain ⟨o27, ho⟩ := ho
          refine k_works hD hR19 _ o27 (fun M25 hR25 => ⟨rfl, ?_⟩)
          refine wm_goto (tgt := 215) C d_Model_oneStep_131 (by decide) ?_
          refine wm_vret C P d_Model_oneStep_215 ?_
          have e : md_oneStep s = (md_works (md_sa (md_ss s 9 ((s.2 9) + 1)) 10 ((s.2 10) - 1) ((s.1 10 ((s.2 10) - 1).toNatClampNeg) + 1)) ((s.1 1 (((s.1 9 ((s.2 10) - 1).toNatClampNeg) * 256) + (s.1 10 ((s.2 10) - 1).toNatClampNeg)).toNatClampNeg) &&& 255)) := by rw [md_oneStep, if_neg h_45, if_pos h_89_15, if_pos h_102_16, if_neg h_122_17]
          rw [e] at h
          exact h _ hR25
      · rw [if_neg h_102_16] at ho
        refine wm_aload_n C d_Model_oneStep_105 rfl (j := 5) rfl ?_
        refine wm_iload C d_Model_oneStep_106 (j := 1) rfl ?_
        refine wm_iload C d_Model_oneStep_108 (j := 0) rfl ?_
        refine wm_iload_n C d_Model_oneStep_110 rfl (j := 4) rfl ?_
        refine wm_iload_n C d_Model_oneStep_111 rfl (j := 3) rfl ?_
        refine wm_callV (d2 := 1) (mc := 0) (ms := 0) C mo_Model_simple co_Model ml_Model_155 [.int ((s.1 1 (((s.1 9 ((s.2 10) - 1).toNatClampNeg) * 256) + (s.1 10 ((s.2 10) - 1).toNatClampNeg)).toNatClampNeg) &&& 255), .int (s.1 1 ((((s.1 9 ((s.2 10) - 1).toNatClampNeg) * 256) + (s.1 10 ((s.2 10) - 1).toNatClampNeg)) + 1).toNatClampNeg), .int ((s.2 10) - 1), .int (s.1 9 ((s.2 10) - 1).toNatClampNeg)] [] rfl hR19.1 rfl (by decide) (Nat.le_of_ble_eq_true rfl) (Nat.le_refl _) (Nat.le_refl _) d_Model_oneStep_112 (cy_kv ?_)
        obtain ⟨o28, ho⟩ := ho
        refine k_simple hD hR19 _ _ _ _ o28 (fun M26 hR26 => ⟨rfl, ?_⟩)
        refine wm_goto (tgt := 215) C d_Model_oneStep_115 (by decide) ?_
        refine wm_vret C P d_Model_oneStep_215 ?_
        have e : md_oneStep s = (md_simple (md_sa (md_ss s 9 ((s.2 9) + 1)) 10 ((s.2 10) - 1) ((s.1 10 ((s.2 10) - 1).toNatClampNeg) + 1)) ((s.1 1 (((s.1 9 ((s.2 10) - 1).toNatClampNeg) * 256) + (s.1 10 ((s.2 10) - 1).toNatClampNeg)).toNatClampNeg) &&& 255) (s.1 1 ((((s.1 9 ((s.2 10) - 1).toNatClampNeg) * 256) + (s.1 10 ((s.2 10) - 1).toNatClampNeg)) + 1).toNatClampNeg) ((s.2 10) - 1) (s.1 9 ((s.2 10) - 1).toNatClampNeg)) := by rw [md_oneStep, if_neg h_45, if_pos h_89_15, if_neg h_102_16]
        rw [e] at h
        exact h _ hR26
    · rw [if_neg h_89_15] at ho
      refine wm_iconst (v := 2) C d_Model_oneStep_92 (by decide) ?_
      refine wm_goto (tgt := 97) C d_Model_oneStep_93 (by decide) ?_
      refine wm_iadd C d_Model_oneStep_97 ?_
      obtain ⟨o29, ho⟩ := ho
      refine wm_iast C (md_arr hR18 10 (by decide)) hD.1 o29 d_Model_oneStep_98 ?_
      refine md_gen (md_R_sa hR18 (a := 10) (by decide) ((s.2 10) - 1) ((s.1 10 ((s.2 10) - 1).toNatClampNeg) + 2)) (fun M27 hR27 => ?_)
      refine wm_iload C d_Model_oneStep_99 (j := 1) rfl ?_
      refine wm_iconst (v := 5) C d_Model_oneStep_101 (by decide) ?_
      refine wm_icmp_ge (tgt := 118) C d_Model_oneStep_102 (by decide) (fun (h_102_22 : 5 ≤ ((s.1 1 (((s.1 9 ((s.2 10) - 1).toNatClampNeg) * 256) + (s.1 10 ((s.2 10) - 1).toNatClampNeg)).toNatClampNeg) &&& 255)) => ?_) (fun (h_102_22 : ¬ 5 ≤ ((s.1 1 (((s.1 9 ((s.2 10) - 1).toNatClampNeg) * 256) + (s.1 10 ((s.2 10) - 1).toNatClampNeg)).toNatClampNeg) &&& 255)) => ?_)
      · rw [if_pos h_102_22] at ho
        refine wm_iload C d_Model_oneStep_118 (j := 1) rfl ?_
        refine wm_bipush (v := 16) C d_Model_oneStep_120 (by decide) ?_
        refine wm_icmp_ge (tgt := 134) C d_Model_oneStep_122 (by decide) (fun (h_122_23 : 16 ≤ ((s.1 1 (((s.1 9 ((s.2 10) - 1).toNatClampNeg) * 256) + (s.1 10 ((s.2 10) - 1).toNatClampNeg)).toNatClampNeg) &&& 255)) => ?_) (fun (h_122_23 : ¬ 16 ≤ ((s.1 1 (((s.1 9 ((s.2 10) - 1).toNatClampNeg) * 256) + (s.1 10 ((s.2 10) - 1).toNatClampNeg)).toNatClampNeg) &&& 255)) => ?_)
        · rw [if_pos h_122_23] at ho
          refine wm_iload C d_Model_oneStep_134 (j := 1) rfl ?_
          refine wm_bipush (v := 19) C d_Model_oneStep_136 (by decide) ?_
          refine wm_icmp_ge (tgt := 157) C d_Model_oneStep_138 (by decide) (fun (h_138_24 : 19 ≤ ((s.1 1 (((s.1 9 ((s.2 10) - 1).toNatClampNeg) * 256) + (s.1 10 ((s.2 10) - 1).toNatClampNeg)).toNatClampNeg) &&& 255)) => ?_) (fun (h_138_24 : ¬ 19 ≤ ((s.1 1 (((s.1 9 ((s.2 10) - 1).toNatClampNeg) * 256) + (s.1 10 ((s.2 10) - 1).toNatClampNeg)).toNatClampNeg) &&& 255)) => ?_)
          · rw [if_pos h_138_24] at ho
            refine wm_iload C d_Model_oneStep_157 (j := 1) rfl ?_
            refine wm_bipush (v := 22) C d_Model_oneStep_159 (by decide) ?_
            refine wm_icmp_ge (tgt := 173) C d_Model_oneStep_161 (by decide) (fun (h_161_25 : 22 ≤ ((s.1 1 (((s.1 9 ((s.2 10) - 1).toNatClampNeg) * 256) + (s.1 10 ((s.2 10) - 1).toNatClampNeg)).toNatClampNeg) &&& 255)) => ?_) (fun (h_161_25 : ¬ 22 ≤ ((s.1 1 (((s.1 9 ((s.2 10) - 1).toNatClampNeg) * 256) + (s.1 10 ((s.2 10) - 1).toNatClampNeg)).toNatClampNeg) &&& 255)) => ?_)
            · rw [if_pos h_161_25] at ho
              refine wm_iload C d_Model_oneStep_173 (j := 1) rfl ?_
              refine wm_bipush (v := 25) C d_Model_oneStep_175 (by decide) ?_
              refine wm_icmp_ge (tgt := 189) C d_Model_oneStep_177 (by decide) (fun (h_177_26 : 25 ≤ ((s.1 1 (((s.1 9 ((s.2 10) - 1).toNatClampNeg) * 256) + (s.1 10 ((s.2 10) - 1).toNatClampNeg)).toNatClampNeg) &&& 255)) => ?_) (fun (h_177_26 : ¬ 25 ≤ ((s.1 1 (((s.1 9 ((s.2 10) - 1).toNatClampNeg) * 256) + (s.1 10 ((s.2 10) - 1).toNatClampNeg)).toNatClampNeg) &&& 255)) => ?_)
              · rw [if_pos h_177_26] at ho
                refine wm_iload C d_Model_oneStep_189 (j := 1) rfl ?_
                refine wm_bipush (v := 27) C d_Model_oneStep_191 (by decide) ?_
                refine wm_icmp_ge (tgt := 205) C d_Model_oneStep_193 (by decide) (fun (h_193_27 : 27 ≤ ((s.1 1 (((s.1 9 ((s.2 10) - 1).toNatClampNeg) * 256) + (s.1 10 ((s.2 10) - 1).toNatClampNeg)).toNatClampNeg) &&& 255)) => ?_) (fun (h_193_27 : ¬ 27 ≤ ((s.1 1 (((s.1 9 ((s.2 10) - 1).toNatClampNeg) * 256) + (s.1 10 ((s.2 10) - 1).toNatClampNeg)).toNatClampNeg) &&& 255)) => ?_)
                · rw [if_pos h_193_27] at ho
                  refine wm_aload_n C d_Model_oneStep_205 rfl (j := 5) rfl ?_
                  refine wm_iload C d_Model_oneStep_206 (j := 0) rfl ?_
                  refine wm_sipush (v := 255) C d_Model_oneStep_208 (by decide) ?_
                  refine wm_iand C d_Model_oneStep_211 ?_
                  refine wm_callV (d2 := 2) (mc := 0) (ms := 0) C mo_Model_call co_Model ml_Model_175 [.int ((s.1 1 ((((s.1 9 ((s.2 10) - 1).toNatClampNeg) * 256) + (s.1 10 ((s.2 10) - 1).toNatClampNeg)) + 1).toNatClampNeg) &&& 255)] [] rfl hR27.1 rfl (by decide) (Nat.le_of_ble_eq_true rfl) (Nat.le_refl _) (Nat.le_refl _) d_Model_oneStep_212 (cy_kv ?_)
                  obtain ⟨o30, ho⟩ := ho
                  refine k_call hD hR27 _ o30 (fun M28 hR28 => ⟨rfl, ?_⟩)
                  refine wm_vret C P d_Model_oneStep_215 ?_
                  have e : md_oneStep s = (md_call (md_sa (md_ss s 9 ((s.2 9) + 1)) 10 ((s.2 10) - 1) ((s.1 10 ((s.2 10) - 1).toNatClampNeg) + 2)) ((s.1 1 ((((s.1 9 ((s.2 10) - 1).toNatClampNeg) * 256) + (s.1 10 ((s.2 10) - 1).toNatClampNeg)) + 1).toNatClampNeg) &&& 255)) := by rw [md_oneStep, if_neg h_45, if_neg h_89_15, if_pos h_102_22, if_pos h_122_23, if_pos h_138_24, if_pos h_161_25, if_pos h_177_26, if_pos h_193_27]
                  rw [e] at h
                  exact h _ hR28
                · rw [if_neg h_193_27] at ho
                  refine wm_aload_n C d_Model_oneStep_196 rfl (j := 5) rfl ?_
                  refine wm_iload C d_Model_oneStep_197 (j := 1) rfl ?_
                  refine wm_callV (d2 := 2) (mc := 0) (ms := 0) C mo_Model_divide co_Model ml_Model_172 [.int ((s.1 1 (((s.1 9 ((s.2 10) - 1).toNatClampNeg) * 256) + (s.1 10 ((s.2 10) - 1).toNatClampNeg)).toNatClampNeg) &&& 255)] [] rfl hR27.1 rfl (by decide) (Nat.le_of_ble_eq_true rfl) (Nat.le_refl _) (Nat.le_refl _) d_Model_oneStep_199 (cy_kv ?_)
                  obtain ⟨o31, ho⟩ := ho
                  refine k_divide hD hR27 _ o31 (fun M29 hR29 => ⟨rfl, ?_⟩)
                  refine wm_goto (tgt := 215) C d_Model_oneStep_202 (by decide) ?_
                  refine wm_vret C P d_Model_oneStep_215 ?_
                  have e : md_oneStep s = (md_divide (md_sa (md_ss s 9 ((s.2 9) + 1)) 10 ((s.2 10) - 1) ((s.1 10 ((s.2 10) - 1).toNatClampNeg) + 2)) ((s.1 1 (((s.1 9 ((s.2 10) - 1).toNatClampNeg) * 256) + (s.1 10 ((s.2 10) - 1).toNatClampNeg)).toNatClampNeg) &&& 255)) := by rw [md_oneStep, if_neg h_45, if_neg h_89_15, if_pos h_102_22, if_pos h_122_23, if_pos h_138_24, if_pos h_161_25, if_pos h_177_26, if_neg h_193_27]
                  rw [e] at h
                  exact h _ hR29
              · rw [if_neg h_177_26] at ho
                refine wm_aload_n C d_Model_oneStep_180 rfl (j := 5) rfl ?_
                refine wm_iload C d_Model_oneStep_181 (j := 1) rfl ?_
                refine wm_callV (d2 := 2) (mc := 0) (ms := 0) C mo_Model_finish co_Model ml_Model_169 [.int ((s.1 1 (((s.1 9 ((s.2 10) - 1).toNatClampNeg) * 256) + (s.1 10 ((s.2 10) - 1).toNatClampNeg)).toNatClampNeg) &&& 255)] [] rfl hR27.1 rfl (by decide) (Nat.le_of_ble_eq_true rfl) (Nat.le_refl _) (Nat.le_refl _) d_Model_oneStep_183 (cy_kv ?_)
                obtain ⟨o32, ho⟩ := ho
                refine k_finish hD hR27 _ o32 (fun M30 hR30 => ⟨rfl, ?_⟩)
                refine wm_goto (tgt := 215) C d_Model_oneStep_186 (by decide) ?_
                refine wm_vret C P d_Model_oneStep_215 ?_
                have e : md_oneStep s = (md_finish (md_sa (md_ss s 9 ((s.2 9) + 1)) 10 ((s.2 10) - 1) ((s.1 10 ((s.2 10) - 1).toNatClampNeg) + 2)) ((s.1 1 (((s.1 9 ((s.2 10) - 1).toNatClampNeg) * 256) + (s.1 10 ((s.2 10) - 1).toNatClampNeg)).toNatClampNeg) &&& 255)) := by rw [md_oneStep, if_neg h_45, if_neg h_89_15, if_pos h_102_22, if_pos h_122_23, if_pos h_138_24, if_pos h_161_25, if_neg h_177_26]
                rw [e] at h
                exact h _ hR30
            · rw [if_neg h_161_25] at ho
              refine wm_aload_n C d_Model_oneStep_164 rfl (j := 5) rfl ?_
              refine wm_iload C d_Model_oneStep_165 (j := 1) rfl ?_
              refine wm_callV (d2 := 2) (mc := 0) (ms := 0) C mo_Model_bytes co_Model ml_Model_166 [.int ((s.1 1 (((s.1 9 ((s.2 10) - 1).toNatClampNeg) * 256) + (s.1 10 ((s.2 10) - 1).toNatClampNeg)).toNatClampNeg) &&& 255)] [] rfl hR27.1 rfl (by decide) (Nat.le_of_ble_eq_true rfl) (Nat.le_refl _) (Nat.le_refl _) d_Model_oneStep_167 (cy_kv ?_)
              obtain ⟨o33, ho⟩ := ho
              refine k_bytes hD hR27 _ o33 (fun M31 hR31 => ⟨rfl, ?_⟩)
              refine wm_goto (tgt := 215) C d_Model_oneStep_170 (by decide) ?_
              refine wm_vret C P d_Model_oneStep_215 ?_
              have e : md_oneStep s = (md_bytes (md_sa (md_ss s 9 ((s.2 9) + 1)) 10 ((s.2 10) - 1) ((s.1 10 ((s.2 10) - 1).toNatClampNeg) + 2)) ((s.1 1 (((s.1 9 ((s.2 10) - 1).toNatClampNeg) * 256) + (s.1 10 ((s.2 10) - 1).toNatClampNeg)).toNatClampNeg) &&& 255)) := by rw [md_oneStep, if_neg h_45, if_neg h_89_15, if_pos h_102_22, if_pos h_122_23, if_pos h_138_24, if_neg h_161_25]
              rw [e] at h
              exact h _ hR31
          · rw [if_neg h_138_24] at ho
            refine wm_aload_n C d_Model_oneStep_141 rfl (j := 5) rfl ?_
            refine wm_iload C d_Model_oneStep_142 (j := 1) rfl ?_
            refine wm_iload C d_Model_oneStep_144 (j := 0) rfl ?_
            refine wm_sipush (v := 255) C d_Model_oneStep_146 (by decide) ?_
            refine wm_iand C d_Model_oneStep_149 ?_
            refine wm_iload_n C d_Model_oneStep_150 rfl (j := 4) rfl ?_
            refine wm_callV (d2 := 1) (mc := 0) (ms := 0) C mo_Model_jumps co_Model ml_Model_162 [.int ((s.1 1 (((s.1 9 ((s.2 10) - 1).toNatClampNeg) * 256) + (s.1 10 ((s.2 10) - 1).toNatClampNeg)).toNatClampNeg) &&& 255), .int ((s.1 1 ((((s.1 9 ((s.2 10) - 1).toNatClampNeg) * 256) + (s.1 10 ((s.2 10) - 1).toNatClampNeg)) + 1).toNatClampNeg) &&& 255), .int ((s.2 10) - 1)] [] rfl hR27.1 rfl (by decide) (Nat.le_of_ble_eq_true rfl) (Nat.le_refl _) (Nat.le_refl _) d_Model_oneStep_151 (cy_kv ?_)
            obtain ⟨o34, ho⟩ := ho
            refine k_jumps hD hR27 _ _ _ o34 (fun M32 hR32 => ⟨rfl, ?_⟩)
            refine wm_goto (tgt := 215) C d_Model_oneStep_154 (by decide) ?_
            refine wm_vret C P d_Model_oneStep_215 ?_
            have e : md_oneStep s = (md_jumps (md_sa (md_ss s 9 ((s.2 9) + 1)) 10 ((s.2 10) - 1) ((s.1 10 ((s.2 10) - 1).toNatClampNeg) + 2)) ((s.1 1 (((s.1 9 ((s.2 10) - 1).toNatClampNeg) * 256) + (s.1 10 ((s.2 10) - 1).toNatClampNeg)).toNatClampNeg) &&& 255) ((s.1 1 ((((s.1 9 ((s.2 10) - 1).toNatClampNeg) * 256) + (s.1 10 ((s.2 10) - 1).toNatClampNeg)) + 1).toNatClampNeg) &&& 255) ((s.2 10) - 1)) := by rw [md_oneStep, if_neg h_45, if_neg h_89_15, if_pos h_102_22, if_pos h_122_23, if_neg h_138_24]
            rw [e] at h
            exact h _ hR32
        · rw [if_neg h_122_23] at ho
          refine wm_aload_n C d_Model_oneStep_125 rfl (j := 5) rfl ?_
          refine wm_iload C d_Model_oneStep_126 (j := 1) rfl ?_
          refine wm_callV (d2 := 1) (mc := 0) (ms := 0) C mo_Model_works co_Model ml_Model_159 [.int ((s.1 1 (((s.1 9 ((s.2 10) - 1).toNatClampNeg) * 256) + (s.1 10 ((s.2 10) - 1).toNatClampNeg)).toNatClampNeg) &&& 255)] [] rfl hR27.1 rfl (by decide) (Nat.le_of_ble_eq_true rfl) (Nat.le_refl _) (Nat.le_refl _) d_Model_oneStep_128 (cy_kv ?_)
          obtain ⟨o35, ho⟩ := ho
          refine k_works hD hR27 _ o35 (fun M33 hR33 => ⟨rfl, ?_⟩)
          refine wm_goto (tgt := 215) C d_Model_oneStep_131 (by decide) ?_
          refine wm_vret C P d_Model_oneStep_215 ?_
          have e : md_oneStep s = (md_works (md_sa (md_ss s 9 ((s.2 9) + 1)) 10 ((s.2 10) - 1) ((s.1 10 ((s.2 10) - 1).toNatClampNeg) + 2)) ((s.1 1 (((s.1 9 ((s.2 10) - 1).toNatClampNeg) * 256) + (s.1 10 ((s.2 10) - 1).toNatClampNeg)).toNatClampNeg) &&& 255)) := by rw [md_oneStep, if_neg h_45, if_neg h_89_15, if_pos h_102_22, if_neg h_122_23]
          rw [e] at h
          exact h _ hR33
      · rw [if_neg h_102_22] at ho
        refine wm_aload_n C d_Model_oneStep_105 rfl (j := 5) rfl ?_
        refine wm_iload C d_Model_oneStep_106 (j := 1) rfl ?_
        refine wm_iload C d_Model_oneStep_108 (j := 0) rfl ?_
        refine wm_iload_n C d_Model_oneStep_110 rfl (j := 4) rfl ?_
        refine wm_iload_n C d_Model_oneStep_111 rfl (j := 3) rfl ?_
        refine wm_callV (d2 := 1) (mc := 0) (ms := 0) C mo_Model_simple co_Model ml_Model_155 [.int ((s.1 1 (((s.1 9 ((s.2 10) - 1).toNatClampNeg) * 256) + (s.1 10 ((s.2 10) - 1).toNatClampNeg)).toNatClampNeg) &&& 255), .int (s.1 1 ((((s.1 9 ((s.2 10) - 1).toNatClampNeg) * 256) + (s.1 10 ((s.2 10) - 1).toNatClampNeg)) + 1).toNatClampNeg), .int ((s.2 10) - 1), .int (s.1 9 ((s.2 10) - 1).toNatClampNeg)] [] rfl hR27.1 rfl (by decide) (Nat.le_of_ble_eq_true rfl) (Nat.le_refl _) (Nat.le_refl _) d_Model_oneStep_112 (cy_kv ?_)
        obtain ⟨o36, ho⟩ := ho
        refine k_simple hD hR27 _ _ _ _ o36 (fun M34 hR34 => ⟨rfl, ?_⟩)
        refine wm_goto (tgt := 215) C d_Model_oneStep_115 (by decide) ?_
        refine wm_vret C P d_Model_oneStep_215 ?_
        have e : md_oneStep s = (md_simple (md_sa (md_ss s 9 ((s.2 9) + 1)) 10 ((s.2 10) - 1) ((s.1 10 ((s.2 10) - 1).toNatClampNeg) + 2)) ((s.1 1 (((s.1 9 ((s.2 10) - 1).toNatClampNeg) * 256) + (s.1 10 ((s.2 10) - 1).toNatClampNeg)).toNatClampNeg) &&& 255) (s.1 1 ((((s.1 9 ((s.2 10) - 1).toNatClampNeg) * 256) + (s.1 10 ((s.2 10) - 1).toNatClampNeg)) + 1).toNatClampNeg) ((s.2 10) - 1) (s.1 9 ((s.2 10) - 1).toNatClampNeg)) := by rw [md_oneStep, if_neg h_45, if_neg h_89_15, if_neg h_102_22]
        rw [e] at h
        exact h _ hR34
def md_go_l : Nat → md_S → Int32 → Int32 → md_S
  | 0, s, _, _ => s
  | q + 1, s, p, n =>
    if n ≤ p then
      s
    else
      if (s.2 5) = 0 then
        s
      else
        if (s.2 9) = 2000 then
          md_go_l q (md_throwFor s 6) (p + 1) n
        else
          md_go_l q (md_oneStep s) (p + 1) n
def md_go_l_ok : Nat → md_S → Int32 → Int32 → Prop
  | 0, _, _, _ => False
  | q + 1, s, p, n =>
    if n ≤ p then
      True
    else
      if (s.2 5) = 0 then
        True
      else
        if (s.2 9) = 2000 then
          (md_throwFor_ok s 6) ∧ (
          md_go_l_ok q (md_throwFor s 6) (p + 1) n)
        else
          (md_oneStep_ok s) ∧ (
          md_go_l_ok q (md_oneStep s) (p + 1) n)
set_option maxHeartbeats 4000000 in
theorem g_go_l {G : cy_G} {D : md_E} {F : cy_F} (hD : md_Eo G D) (C : cy_C G F R_Model b_Model_go 3 4 0 0) : ∀ (q : Nat) (s : md_S) (p : Int32) (n : Int32) (M : cy_Hp), md_R D s M → md_go_l_ok q s p n → (∀ M', md_R D (md_go_l q s p n) M' → WM G F 3 0 0 63 [(0, .ref D.2.2.2.1), (1, .int n)] [] M') → WM G F 3 0 0 22 [(2, .int p), (0, .ref D.2.2.2.1), (1, .int n)] [] M := by
  intro q
  induction q with
  | zero =>
    intro s p n M hR ho hk
    exact absurd ho id
  | succ q ih =>
    intro s p n M hR ho hk
    unfold md_go_l_ok at ho
    refine wm_iload_n C d_Model_go_22 rfl (j := 0) rfl ?_
    refine wm_iload_n C d_Model_go_23 rfl (j := 2) rfl ?_
    refine wm_icmp_ge (tgt := 63) C d_Model_go_24 (by decide) (fun (h_24 : n ≤ p) => ?_) (fun (h_24 : ¬ n ≤ p) => ?_)
    · rw [if_pos h_24] at ho
      have e : md_go_l (q + 1) s p n = s := by rw [md_go_l, if_pos h_24]
      rw [e] at hk
      exact wm_sub [(0, .ref D.2.2.2.1), (1, .int n)] (by simp) (hk _ hR)
    · rw [if_neg h_24] at ho
      refine wm_aload_n C d_Model_go_27 rfl (j := 1) rfl ?_
      refine wm_get C co_Model hR.1 14 (by decide) fl_Model_108 rfl d_Model_go_28 ?_
      refine wm_if_eq (tgt := 63) C d_Model_go_31 (by decide) (fun (h_31 : (s.2 5) = 0) => ?_) (fun (h_31 : ¬ (s.2 5) = 0) => ?_)
      · rw [if_pos h_31] at ho
        have e : md_go_l (q + 1) s p n = s := by rw [md_go_l, if_neg h_24, if_pos h_31]
        rw [e] at hk
        exact wm_sub [(0, .ref D.2.2.2.1), (1, .int n)] (by simp) (hk _ hR)
      · rw [if_neg h_31] at ho
        refine wm_aload_n C d_Model_go_34 rfl (j := 1) rfl ?_
        refine wm_get C co_Model hR.1 18 (by decide) fl_Model_137 rfl d_Model_go_35 ?_
        refine wm_sipush (v := 2000) C d_Model_go_38 (by decide) ?_
        refine wm_icmp_ne (tgt := 53) C d_Model_go_41 (by decide) (fun (h_41 : ¬ (s.2 9) = 2000) => ?_) (fun (h_41 : (s.2 9) = 2000) => ?_)
        · rw [if_neg h_41] at ho
          refine wm_aload_n C d_Model_go_53 rfl (j := 1) rfl ?_
          refine wm_callV (d2 := 3) (mc := 0) (ms := 0) C mo_Model_oneStep co_Model ml_Model_152 [] [] rfl hR.1 rfl (by decide) (Nat.le_of_ble_eq_true rfl) (Nat.le_refl _) (Nat.le_refl _) d_Model_go_54 (cy_kv ?_)
          obtain ⟨o1, ho⟩ := ho
          refine k_oneStep hD hR  o1 (fun M1 hR1 => ⟨rfl, ?_⟩)
          refine wm_iinc (v := p + 1) (lv' := [(2, .int (p + 1)), (0, .ref D.2.2.2.1), (1, .int n)]) C d_Model_go_57 (k := 0) rfl rfl (by decide) rfl ?_
          refine wm_goto (tgt := 22) C d_Model_go_60 (by decide) ?_
          have e : md_go_l (q + 1) s p n = md_go_l q (md_oneStep s) (p + 1) n := by rw [md_go_l, if_neg h_24, if_neg h_31, if_neg h_41]
          rw [e] at hk
          exact wm_sub [(2, .int (p + 1)), (0, .ref D.2.2.2.1), (1, .int n)] (by simp) (ih (md_oneStep s) (p + 1) n _ hR1 ho hk)
        · rw [if_pos h_41] at ho
          refine wm_aload_n C d_Model_go_44 rfl (j := 1) rfl ?_
          refine wm_bipush (v := 6) C d_Model_go_45 (by decide) ?_
          refine wm_callV (d2 := 1) (mc := 0) (ms := 0) C mo_Model_throwFor co_Model ml_Model_149 [.int 6] [] rfl hR.1 rfl (by decide) (Nat.le_of_ble_eq_true rfl) (Nat.le_refl _) (Nat.le_refl _) d_Model_go_47 (cy_kv ?_)
          obtain ⟨o2, ho⟩ := ho
          refine k_throwFor hD hR _ o2 (fun M2 hR2 => ⟨rfl, ?_⟩)
          refine wm_goto (tgt := 57) C d_Model_go_50 (by decide) ?_
          refine wm_iinc (v := p + 1) (lv' := [(2, .int (p + 1)), (0, .ref D.2.2.2.1), (1, .int n)]) C d_Model_go_57 (k := 0) rfl rfl (by decide) rfl ?_
          refine wm_goto (tgt := 22) C d_Model_go_60 (by decide) ?_
          have e : md_go_l (q + 1) s p n = md_go_l q (md_throwFor s 6) (p + 1) n := by rw [md_go_l, if_neg h_24, if_neg h_31, if_pos h_41]
          rw [e] at hk
          exact wm_sub [(2, .int (p + 1)), (0, .ref D.2.2.2.1), (1, .int n)] (by simp) (ih (md_throwFor s 6) (p + 1) n _ hR2 ho hk)
def md_go (s : md_S) (n : Int32) : Int32 × md_S :=
  if n < 0 then
    ((-1), s)
  else
    if 2001 < n then
      ((-1), s)
    else
      if (s.2 5) = 0 then
        ((-1), s)
      else
        if ((md_go_l (n.toInt.toNat + 1) s 0 n).2 5) = 0 then
          if ((md_go_l (n.toInt.toNat + 1) s 0 n).2 6) = 0 then
            (0, (md_go_l (n.toInt.toNat + 1) s 0 n))
          else
            (2, (md_go_l (n.toInt.toNat + 1) s 0 n))
        else
          (1, (md_go_l (n.toInt.toNat + 1) s 0 n))
def md_go_ok (s : md_S) (n : Int32) : Prop :=
  if n < 0 then
    True
  else
    if 2001 < n then
      True
    else
      if (s.2 5) = 0 then
        True
      else
        (md_go_l_ok (n.toInt.toNat + 1) s 0 n) ∧ (
        if ((md_go_l (n.toInt.toNat + 1) s 0 n).2 5) = 0 then
          if ((md_go_l (n.toInt.toNat + 1) s 0 n).2 6) = 0 then
            True
          else
            True
        else
          True)
set_option maxHeartbeats 4000000 in
theorem k_go {G : cy_G} {D : md_E} {s : md_S} {M : cy_Hp} {post : Option Value → cy_Hp → Prop} (hD : md_Eo G D) (hR : md_R D s M) (n : Int32) (ho : md_go_ok s n) (h : ∀ M', md_R D (md_go s n).2 M' → post (some (.int (md_go s n).1)) M') : cy_Ct G 4 m_Model_go [.ref D.2.2.2.1, .int n] M 0 0 post := by
  refine cy_Ct.of (by decide) (Nat.le_of_ble_eq_true rfl) ?_
  intro F C P _
  have C : cy_C G F R_Model b_Model_go 3 4 0 0 := C
  have P : cy_P G F (some .int) post 0 0 := P
  unfold md_go_ok at ho
  show WM G F 3 0 0 0 [(0, .ref D.2.2.2.1), (1, .int n)] [] M
  refine wm_iload_n C d_Model_go_0 rfl (j := 1) rfl ?_
  refine wm_if_lt (tgt := 18) C d_Model_go_1 (by decide) (fun (h_1 : n < 0) => ?_) (fun (h_1 : ¬ n < 0) => ?_)
  · rw [if_pos h_1] at ho
    refine wm_iconst (v := -1) C d_Model_go_18 (by decide) ?_
    refine wm_iret C P d_Model_go_19 ?_
    have e : md_go s n = ((-1), s) := by rw [md_go, if_pos h_1]
    rw [e] at h
    exact h _ hR
  · rw [if_neg h_1] at ho
    refine wm_iload_n C d_Model_go_4 rfl (j := 1) rfl ?_
    refine wm_sipush (v := 2001) C d_Model_go_5 (by decide) ?_
    refine wm_icmp_gt (tgt := 18) C d_Model_go_8 (by decide) (fun (h_8 : 2001 < n) => ?_) (fun (h_8 : ¬ 2001 < n) => ?_)
    · rw [if_pos h_8] at ho
      refine wm_iconst (v := -1) C d_Model_go_18 (by decide) ?_
      refine wm_iret C P d_Model_go_19 ?_
      have e : md_go s n = ((-1), s) := by rw [md_go, if_neg h_1, if_pos h_8]
      rw [e] at h
      exact h _ hR
    · rw [if_neg h_8] at ho
      refine wm_aload_n C d_Model_go_11 rfl (j := 0) rfl ?_
      refine wm_get C co_Model hR.1 14 (by decide) fl_Model_108 rfl d_Model_go_12 ?_
      refine wm_if_ne (tgt := 20) C d_Model_go_15 (by decide) (fun (h_15 : ¬ (s.2 5) = 0) => ?_) (fun (h_15 : (s.2 5) = 0) => ?_)
      · rw [if_neg h_15] at ho
        refine wm_iconst (v := 0) C d_Model_go_20 (by decide) ?_
        refine wm_istore_n (lv' := [(2, .int 0), (0, .ref D.2.2.2.1), (1, .int n)]) C d_Model_go_21 rfl (by decide) rfl ?_
        obtain ⟨o1, ho⟩ := ho
        refine wm_sub [(2, .int 0), (0, .ref D.2.2.2.1), (1, .int n)] (by simp) (g_go_l hD C (n.toInt.toNat + 1) s 0 n _ hR o1 (fun M1 hR1 => ?_))
        refine wm_aload_n C d_Model_go_63 rfl (j := 0) rfl ?_
        refine wm_get C co_Model hR1.1 14 (by decide) fl_Model_108 rfl d_Model_go_64 ?_
        refine wm_if_eq (tgt := 74) C d_Model_go_67 (by decide) (fun (h_67 : ((md_go_l (n.toInt.toNat + 1) s 0 n).2 5) = 0) => ?_) (fun (h_67 : ¬ ((md_go_l (n.toInt.toNat + 1) s 0 n).2 5) = 0) => ?_)
        · rw [if_pos h_67] at ho
          refine wm_aload_n C d_Model_go_74 rfl (j := 0) rfl ?_
          refine wm_get C co_Model hR1.1 15 (by decide) fl_Model_128 rfl d_Model_go_75 ?_
          refine wm_if_eq (tgt := 85) C d_Model_go_78 (by decide) (fun (h_78 : ((md_go_l (n.toInt.toNat + 1) s 0 n).2 6) = 0) => ?_) (fun (h_78 : ¬ ((md_go_l (n.toInt.toNat + 1) s 0 n).2 6) = 0) => ?_)
          · rw [if_pos h_78] at ho
            refine wm_iconst (v := 0) C d_Model_go_85 (by decide) ?_
            refine wm_iret C P d_Model_go_86 ?_
            have e : md_go s n = (0, (md_go_l (n.toInt.toNat + 1) s 0 n)) := by rw [md_go, if_neg h_1, if_neg h_8, if_neg h_15, if_pos h_67, if_pos h_78]
            rw [e] at h
            exact h _ hR1
          · rw [if_neg h_78] at ho
            refine wm_iconst (v := 2) C d_Model_go_81 (by decide) ?_
            refine wm_goto (tgt := 86) C d_Model_go_82 (by decide) ?_
            refine wm_iret C P d_Model_go_86 ?_
            have e : md_go s n = (2, (md_go_l (n.toInt.toNat + 1) s 0 n)) := by rw [md_go, if_neg h_1, if_neg h_8, if_neg h_15, if_pos h_67, if_neg h_78]
            rw [e] at h
            exact h _ hR1
        · rw [if_neg h_67] at ho
          refine wm_iconst (v := 1) C d_Model_go_70 (by decide) ?_
          refine wm_goto (tgt := 86) C d_Model_go_71 (by decide) ?_
          refine wm_iret C P d_Model_go_86 ?_
          have e : md_go s n = (1, (md_go_l (n.toInt.toNat + 1) s 0 n)) := by rw [md_go, if_neg h_1, if_neg h_8, if_neg h_15, if_neg h_67]
          rw [e] at h
          exact h _ hR1
      · rw [if_pos h_15] at ho
        refine wm_iconst (v := -1) C d_Model_go_18 (by decide) ?_
        refine wm_iret C P d_Model_go_19 ?_
        have e : md_go s n = ((-1), s) := by rw [md_go, if_neg h_1, if_neg h_8, if_pos h_15]
        rw [e] at h
        exact h _ hR
def md_state (s : md_S) (what : Int32) : Int32 :=
  if (s.2 4) = 0 then
    (-1)
  else
    if what = 0 then
      if (s.2 5) = 0 then
        if (s.2 6) = 0 then
          0
        else
          2
      else
        1
    else
      if what = 1 then
        s.2 7
      else
        if what = 2 then
          s.2 8
        else
          if what = 3 then
            s.2 9
          else
            if what = 4 then
              if (s.2 5) = 0 then
                0
              else
                s.2 10
            else
              if what = 5 then
                if (s.2 5) = 0 then
                  (-1)
                else
                  s.1 9 ((s.2 10) - 1).toNatClampNeg
              else
                if what = 6 then
                  if (s.2 5) = 0 then
                    (-1)
                  else
                    s.1 10 ((s.2 10) - 1).toNatClampNeg
                else
                  if what = 7 then
                    s.2 12
                  else
                    (-1)
def md_state_ok (s : md_S) (what : Int32) : Prop :=
  if (s.2 4) = 0 then
    True
  else
    if what = 0 then
      if (s.2 5) = 0 then
        if (s.2 6) = 0 then
          True
        else
          True
      else
        True
    else
      if what = 1 then
        True
      else
        if what = 2 then
          True
        else
          if what = 3 then
            True
          else
            if what = 4 then
              if (s.2 5) = 0 then
                True
              else
                True
            else
              if what = 5 then
                if (s.2 5) = 0 then
                  True
                else
                  (vp_in ((s.2 10) - 1) 8) ∧ (
                  True)
              else
                if what = 6 then
                  if (s.2 5) = 0 then
                    True
                  else
                    (vp_in ((s.2 10) - 1) 8) ∧ (
                    True)
                else
                  if what = 7 then
                    True
                  else
                    True
set_option maxHeartbeats 4000000 in
theorem k_state {G : cy_G} {D : md_E} {s : md_S} {M : cy_Hp} {post : Option Value → cy_Hp → Prop} (hD : md_Eo G D) (hR : md_R D s M) (what : Int32) (ho : md_state_ok s what) (h : post (some (.int (md_state s what))) M) : cy_Ct G 0 m_Model_state [.ref D.2.2.2.1, .int what] M 0 0 post := by
  refine cy_Ct.of (by decide) (Nat.le_of_ble_eq_true rfl) ?_
  intro F C P _
  have C : cy_C G F R_Model b_Model_state 2 0 0 0 := C
  have P : cy_P G F (some .int) post 0 0 := P
  unfold md_state_ok at ho
  show WM G F 2 0 0 0 [(0, .ref D.2.2.2.1), (1, .int what)] [] M
  refine wm_aload_n C d_Model_state_0 rfl (j := 0) rfl ?_
  refine wm_get C co_Model hR.1 13 (by decide) fl_Model_125 rfl d_Model_state_1 ?_
  refine wm_if_ne (tgt := 9) C d_Model_state_4 (by decide) (fun (h_4 : ¬ (s.2 4) = 0) => ?_) (fun (h_4 : (s.2 4) = 0) => ?_)
  · rw [if_neg h_4] at ho
    refine wm_iload_n C d_Model_state_9 rfl (j := 1) rfl ?_
    by_cases e_10_0 : what = 0
    · refine wm_tableIn (tgt := 56) C d_Model_state_10 (by rw [e_10_0]; decide) (by rw [e_10_0]; decide) (by rw [e_10_0]; rfl) (by decide) ?_
      rw [if_pos e_10_0] at ho
      refine wm_aload_n C d_Model_state_56 rfl (j := 0) rfl ?_
      refine wm_get C co_Model hR.1 14 (by decide) fl_Model_108 rfl d_Model_state_57 ?_
      refine wm_if_eq (tgt := 67) C d_Model_state_60 (by decide) (fun (h_60 : (s.2 5) = 0) => ?_) (fun (h_60 : ¬ (s.2 5) = 0) => ?_)
      · rw [if_pos h_60] at ho
        refine wm_aload_n C d_Model_state_67 rfl (j := 0) rfl ?_
        refine wm_get C co_Model hR.1 15 (by decide) fl_Model_128 rfl d_Model_state_68 ?_
        refine wm_if_eq (tgt := 78) C d_Model_state_71 (by decide) (fun (h_71 : (s.2 6) = 0) => ?_) (fun (h_71 : ¬ (s.2 6) = 0) => ?_)
        · rw [if_pos h_71] at ho
          refine wm_iconst (v := 0) C d_Model_state_78 (by decide) ?_
          refine wm_iret C P d_Model_state_79 ?_
          have e : md_state s what = 0 := by rw [md_state, if_neg h_4, if_pos e_10_0, if_pos h_60, if_pos h_71]
          rw [e] at h
          exact h
        · rw [if_neg h_71] at ho
          refine wm_iconst (v := 2) C d_Model_state_74 (by decide) ?_
          refine wm_goto (tgt := 79) C d_Model_state_75 (by decide) ?_
          refine wm_iret C P d_Model_state_79 ?_
          have e : md_state s what = 2 := by rw [md_state, if_neg h_4, if_pos e_10_0, if_pos h_60, if_neg h_71]
          rw [e] at h
          exact h
      · rw [if_neg h_60] at ho
        refine wm_iconst (v := 1) C d_Model_state_63 (by decide) ?_
        refine wm_goto (tgt := 79) C d_Model_state_64 (by decide) ?_
        refine wm_iret C P d_Model_state_79 ?_
        have e : md_state s what = 1 := by rw [md_state, if_neg h_4, if_pos e_10_0, if_neg h_60]
        rw [e] at h
        exact h
    by_cases e_10_1 : what = 1
    · refine wm_tableIn (tgt := 80) C d_Model_state_10 (by rw [e_10_1]; decide) (by rw [e_10_1]; decide) (by rw [e_10_1]; rfl) (by decide) ?_
      rw [if_neg e_10_0, if_pos e_10_1] at ho
      refine wm_aload_n C d_Model_state_80 rfl (j := 0) rfl ?_
      refine wm_get C co_Model hR.1 16 (by decide) fl_Model_131 rfl d_Model_state_81 ?_
      refine wm_iret C P d_Model_state_84 ?_
      have e : md_state s what = s.2 7 := by rw [md_state, if_neg h_4, if_neg e_10_0, if_pos e_10_1]
      rw [e] at h
      exact h
    by_cases e_10_2 : what = 2
    · refine wm_tableIn (tgt := 85) C d_Model_state_10 (by rw [e_10_2]; decide) (by rw [e_10_2]; decide) (by rw [e_10_2]; rfl) (by decide) ?_
      rw [if_neg e_10_0, if_neg e_10_1, if_pos e_10_2] at ho
      refine wm_aload_n C d_Model_state_85 rfl (j := 0) rfl ?_
      refine wm_get C co_Model hR.1 17 (by decide) fl_Model_134 rfl d_Model_state_86 ?_
      refine wm_iret C P d_Model_state_89 ?_
      have e : md_state s what = s.2 8 := by rw [md_state, if_neg h_4, if_neg e_10_0, if_neg e_10_1, if_pos e_10_2]
      rw [e] at h
      exact h
    by_cases e_10_3 : what = 3
    · refine wm_tableIn (tgt := 90) C d_Model_state_10 (by rw [e_10_3]; decide) (by rw [e_10_3]; decide) (by rw [e_10_3]; rfl) (by decide) ?_
      rw [if_neg e_10_0, if_neg e_10_1, if_neg e_10_2, if_pos e_10_3] at ho
      refine wm_aload_n C d_Model_state_90 rfl (j := 0) rfl ?_
      refine wm_get C co_Model hR.1 18 (by decide) fl_Model_137 rfl d_Model_state_91 ?_
      refine wm_iret C P d_Model_state_94 ?_
      have e : md_state s what = s.2 9 := by rw [md_state, if_neg h_4, if_neg e_10_0, if_neg e_10_1, if_neg e_10_2, if_pos e_10_3]
      rw [e] at h
      exact h
    by_cases e_10_4 : what = 4
    · refine wm_tableIn (tgt := 95) C d_Model_state_10 (by rw [e_10_4]; decide) (by rw [e_10_4]; decide) (by rw [e_10_4]; rfl) (by decide) ?_
      rw [if_neg e_10_0, if_neg e_10_1, if_neg e_10_2, if_neg e_10_3, if_pos e_10_4] at ho
      refine wm_aload_n C d_Model_state_95 rfl (j := 0) rfl ?_
      refine wm_get C co_Model hR.1 14 (by decide) fl_Model_108 rfl d_Model_state_96 ?_
      refine wm_if_eq (tgt := 109) C d_Model_state_99 (by decide) (fun (h_99 : (s.2 5) = 0) => ?_) (fun (h_99 : ¬ (s.2 5) = 0) => ?_)
      · rw [if_pos h_99] at ho
        refine wm_iconst (v := 0) C d_Model_state_109 (by decide) ?_
        refine wm_iret C P d_Model_state_110 ?_
        have e : md_state s what = 0 := by rw [md_state, if_neg h_4, if_neg e_10_0, if_neg e_10_1, if_neg e_10_2, if_neg e_10_3, if_pos e_10_4, if_pos h_99]
        rw [e] at h
        exact h
      · rw [if_neg h_99] at ho
        refine wm_aload_n C d_Model_state_102 rfl (j := 0) rfl ?_
        refine wm_get C co_Model hR.1 19 (by decide) fl_Model_140 rfl d_Model_state_103 ?_
        refine wm_goto (tgt := 110) C d_Model_state_106 (by decide) ?_
        refine wm_iret C P d_Model_state_110 ?_
        have e : md_state s what = s.2 10 := by rw [md_state, if_neg h_4, if_neg e_10_0, if_neg e_10_1, if_neg e_10_2, if_neg e_10_3, if_pos e_10_4, if_neg h_99]
        rw [e] at h
        exact h
    by_cases e_10_5 : what = 5
    · refine wm_tableIn (tgt := 111) C d_Model_state_10 (by rw [e_10_5]; decide) (by rw [e_10_5]; decide) (by rw [e_10_5]; rfl) (by decide) ?_
      rw [if_neg e_10_0, if_neg e_10_1, if_neg e_10_2, if_neg e_10_3, if_neg e_10_4, if_pos e_10_5] at ho
      refine wm_aload_n C d_Model_state_111 rfl (j := 0) rfl ?_
      refine wm_get C co_Model hR.1 14 (by decide) fl_Model_108 rfl d_Model_state_112 ?_
      refine wm_if_eq (tgt := 132) C d_Model_state_115 (by decide) (fun (h_115 : (s.2 5) = 0) => ?_) (fun (h_115 : ¬ (s.2 5) = 0) => ?_)
      · rw [if_pos h_115] at ho
        refine wm_iconst (v := -1) C d_Model_state_132 (by decide) ?_
        refine wm_iret C P d_Model_state_133 ?_
        have e : md_state s what = (-1) := by rw [md_state, if_neg h_4, if_neg e_10_0, if_neg e_10_1, if_neg e_10_2, if_neg e_10_3, if_neg e_10_4, if_pos e_10_5, if_pos h_115]
        rw [e] at h
        exact h
      · rw [if_neg h_115] at ho
        refine wm_aload_n C d_Model_state_118 rfl (j := 0) rfl ?_
        refine wm_get C co_Model hR.1 20 (by decide) fl_Model_39 rfl d_Model_state_119 ?_
        refine wm_aload_n C d_Model_state_122 rfl (j := 0) rfl ?_
        refine wm_get C co_Model hR.1 19 (by decide) fl_Model_140 rfl d_Model_state_123 ?_
        refine wm_iconst (v := 1) C d_Model_state_126 (by decide) ?_
        refine wm_isub C d_Model_state_127 ?_
        obtain ⟨o1, ho⟩ := ho
        refine wm_iald C (md_arr hR 9 (by decide)) hD.1 o1 d_Model_state_128 ?_
        refine wm_goto (tgt := 133) C d_Model_state_129 (by decide) ?_
        refine wm_iret C P d_Model_state_133 ?_
        have e : md_state s what = s.1 9 ((s.2 10) - 1).toNatClampNeg := by rw [md_state, if_neg h_4, if_neg e_10_0, if_neg e_10_1, if_neg e_10_2, if_neg e_10_3, if_neg e_10_4, if_pos e_10_5, if_neg h_115]
        rw [e] at h
        exact h
    by_cases e_10_6 : what = 6
    · refine wm_tableIn (tgt := 134) C d_Model_state_10 (by rw [e_10_6]; decide) (by rw [e_10_6]; decide) (by rw [e_10_6]; rfl) (by decide) ?_
      rw [if_neg e_10_0, if_neg e_10_1, if_neg e_10_2, if_neg e_10_3, if_neg e_10_4, if_neg e_10_5, if_pos e_10_6] at ho
      refine wm_aload_n C d_Model_state_134 rfl (j := 0) rfl ?_
      refine wm_get C co_Model hR.1 14 (by decide) fl_Model_108 rfl d_Model_state_135 ?_
      refine wm_if_eq (tgt := 155) C d_Model_state_138 (by decide) (fun (h_138 : (s.2 5) = 0) => ?_) (fun (h_138 : ¬ (s.2 5) = 0) => ?_)
      · rw [if_pos h_138] at ho
        refine wm_iconst (v := -1) C d_Model_state_155 (by decide) ?_
        refine wm_iret C P d_Model_state_156 ?_
        have e : md_state s what = (-1) := by rw [md_state, if_neg h_4, if_neg e_10_0, if_neg e_10_1, if_neg e_10_2, if_neg e_10_3, if_neg e_10_4, if_neg e_10_5, if_pos e_10_6, if_pos h_138]
        rw [e] at h
        exact h
      · rw [if_neg h_138] at ho
        refine wm_aload_n C d_Model_state_141 rfl (j := 0) rfl ?_
        refine wm_get C co_Model hR.1 21 (by decide) fl_Model_42 rfl d_Model_state_142 ?_
        refine wm_aload_n C d_Model_state_145 rfl (j := 0) rfl ?_
        refine wm_get C co_Model hR.1 19 (by decide) fl_Model_140 rfl d_Model_state_146 ?_
        refine wm_iconst (v := 1) C d_Model_state_149 (by decide) ?_
        refine wm_isub C d_Model_state_150 ?_
        obtain ⟨o2, ho⟩ := ho
        refine wm_iald C (md_arr hR 10 (by decide)) hD.1 o2 d_Model_state_151 ?_
        refine wm_goto (tgt := 156) C d_Model_state_152 (by decide) ?_
        refine wm_iret C P d_Model_state_156 ?_
        have e : md_state s what = s.1 10 ((s.2 10) - 1).toNatClampNeg := by rw [md_state, if_neg h_4, if_neg e_10_0, if_neg e_10_1, if_neg e_10_2, if_neg e_10_3, if_neg e_10_4, if_neg e_10_5, if_pos e_10_6, if_neg h_138]
        rw [e] at h
        exact h
    by_cases e_10_7 : what = 7
    · refine wm_tableIn (tgt := 157) C d_Model_state_10 (by rw [e_10_7]; decide) (by rw [e_10_7]; decide) (by rw [e_10_7]; rfl) (by decide) ?_
      rw [if_neg e_10_0, if_neg e_10_1, if_neg e_10_2, if_neg e_10_3, if_neg e_10_4, if_neg e_10_5, if_neg e_10_6, if_pos e_10_7] at ho
      refine wm_aload_n C d_Model_state_157 rfl (j := 0) rfl ?_
      refine wm_get C co_Model hR.1 28 (by decide) fl_Model_122 rfl d_Model_state_158 ?_
      refine wm_iret C P d_Model_state_161 ?_
      have e : md_state s what = s.2 12 := by rw [md_state, if_neg h_4, if_neg e_10_0, if_neg e_10_1, if_neg e_10_2, if_neg e_10_3, if_neg e_10_4, if_neg e_10_5, if_neg e_10_6, if_pos e_10_7]
      rw [e] at h
      exact h
    · refine wm_tableOut (tgt := 162) C d_Model_state_10 (by have n0 := lv_neT e_10_0 (a := 0) (by decide); have n1 := lv_neT e_10_1 (a := 1) (by decide); have n2 := lv_neT e_10_2 (a := 2) (by decide); have n3 := lv_neT e_10_3 (a := 3) (by decide); have n4 := lv_neT e_10_4 (a := 4) (by decide); have n5 := lv_neT e_10_5 (a := 5) (by decide); have n6 := lv_neT e_10_6 (a := 6) (by decide); have n7 := lv_neT e_10_7 (a := 7) (by decide); omega) (by decide) ?_
      rw [if_neg e_10_0, if_neg e_10_1, if_neg e_10_2, if_neg e_10_3, if_neg e_10_4, if_neg e_10_5, if_neg e_10_6, if_neg e_10_7] at ho
      refine wm_iconst (v := -1) C d_Model_state_162 (by decide) ?_
      refine wm_iret C P d_Model_state_163 ?_
      have e : md_state s what = (-1) := by rw [md_state, if_neg h_4, if_neg e_10_0, if_neg e_10_1, if_neg e_10_2, if_neg e_10_3, if_neg e_10_4, if_neg e_10_5, if_neg e_10_6, if_neg e_10_7]
      rw [e] at h
      exact h
  · rw [if_pos h_4] at ho
    refine wm_iconst (v := -1) C d_Model_state_7 (by decide) ?_
    refine wm_iret C P d_Model_state_8 ?_
    have e : md_state s what = (-1) := by rw [md_state, if_pos h_4]
    rw [e] at h
    exact h
def md_stack (s : md_S) (i : Int32) : Int32 :=
  if (s.2 5) = 0 then
    0
  else
    if i < 0 then
      0
    else
      if i < (s.1 11 ((s.2 10) - 1).toNatClampNeg) then
        s.1 12 ((8 * ((s.2 10) - 1)) + i).toNatClampNeg
      else
        0
def md_stack_ok (s : md_S) (i : Int32) : Prop :=
  if (s.2 5) = 0 then
    True
  else
    if i < 0 then
      True
    else
      (vp_in ((s.2 10) - 1) 8) ∧ (
      if i < (s.1 11 ((s.2 10) - 1).toNatClampNeg) then
        (vp_in ((8 * ((s.2 10) - 1)) + i) 64) ∧ (
        True)
      else
        True)
set_option maxHeartbeats 4000000 in
theorem k_stack {G : cy_G} {D : md_E} {s : md_S} {M : cy_Hp} {post : Option Value → cy_Hp → Prop} (hD : md_Eo G D) (hR : md_R D s M) (i : Int32) (ho : md_stack_ok s i) (h : post (some (.int (md_stack s i))) M) : cy_Ct G 0 m_Model_stack [.ref D.2.2.2.1, .int i] M 0 0 post := by
  refine cy_Ct.of (by decide) (Nat.le_of_ble_eq_true rfl) ?_
  intro F C P _
  have C : cy_C G F R_Model b_Model_stack 2 0 0 0 := C
  have P : cy_P G F (some .int) post 0 0 := P
  unfold md_stack_ok at ho
  show WM G F 2 0 0 0 [(0, .ref D.2.2.2.1), (1, .int i)] [] M
  refine wm_aload_n C d_Model_stack_0 rfl (j := 0) rfl ?_
  refine wm_get C co_Model hR.1 14 (by decide) fl_Model_108 rfl d_Model_stack_1 ?_
  refine wm_if_eq (tgt := 26) C d_Model_stack_4 (by decide) (fun (h_4 : (s.2 5) = 0) => ?_) (fun (h_4 : ¬ (s.2 5) = 0) => ?_)
  · rw [if_pos h_4] at ho
    refine wm_iconst (v := 0) C d_Model_stack_26 (by decide) ?_
    refine wm_goto (tgt := 46) C d_Model_stack_27 (by decide) ?_
    refine wm_iret C P d_Model_stack_46 ?_
    have e : md_stack s i = 0 := by rw [md_stack, if_pos h_4]
    rw [e] at h
    exact h
  · rw [if_neg h_4] at ho
    refine wm_iload_n C d_Model_stack_7 rfl (j := 1) rfl ?_
    refine wm_if_lt (tgt := 26) C d_Model_stack_8 (by decide) (fun (h_8 : i < 0) => ?_) (fun (h_8 : ¬ i < 0) => ?_)
    · rw [if_pos h_8] at ho
      refine wm_iconst (v := 0) C d_Model_stack_26 (by decide) ?_
      refine wm_goto (tgt := 46) C d_Model_stack_27 (by decide) ?_
      refine wm_iret C P d_Model_stack_46 ?_
      have e : md_stack s i = 0 := by rw [md_stack, if_neg h_4, if_pos h_8]
      rw [e] at h
      exact h
    · rw [if_neg h_8] at ho
      refine wm_iload_n C d_Model_stack_11 rfl (j := 1) rfl ?_
      refine wm_aload_n C d_Model_stack_12 rfl (j := 0) rfl ?_
      refine wm_get C co_Model hR.1 22 (by decide) fl_Model_45 rfl d_Model_stack_13 ?_
      refine wm_aload_n C d_Model_stack_16 rfl (j := 0) rfl ?_
      refine wm_get C co_Model hR.1 19 (by decide) fl_Model_140 rfl d_Model_stack_17 ?_
      refine wm_iconst (v := 1) C d_Model_stack_20 (by decide) ?_
      refine wm_isub C d_Model_stack_21 ?_
      obtain ⟨o1, ho⟩ := ho
      refine wm_iald C (md_arr hR 11 (by decide)) hD.1 o1 d_Model_stack_22 ?_
      refine wm_icmp_lt (tgt := 30) C d_Model_stack_23 (by decide) (fun (h_23 : i < (s.1 11 ((s.2 10) - 1).toNatClampNeg)) => ?_) (fun (h_23 : ¬ i < (s.1 11 ((s.2 10) - 1).toNatClampNeg)) => ?_)
      · rw [if_pos h_23] at ho
        refine wm_aload_n C d_Model_stack_30 rfl (j := 0) rfl ?_
        refine wm_get C co_Model hR.1 23 (by decide) fl_Model_48 rfl d_Model_stack_31 ?_
        refine wm_bipush (v := 8) C d_Model_stack_34 (by decide) ?_
        refine wm_aload_n C d_Model_stack_36 rfl (j := 0) rfl ?_
        refine wm_get C co_Model hR.1 19 (by decide) fl_Model_140 rfl d_Model_stack_37 ?_
        refine wm_iconst (v := 1) C d_Model_stack_40 (by decide) ?_
        refine wm_isub C d_Model_stack_41 ?_
        refine wm_imul C d_Model_stack_42 ?_
        refine wm_iload_n C d_Model_stack_43 rfl (j := 1) rfl ?_
        refine wm_iadd C d_Model_stack_44 ?_
        obtain ⟨o2, ho⟩ := ho
        refine wm_iald C (md_arr hR 12 (by decide)) hD.1 o2 d_Model_stack_45 ?_
        refine wm_iret C P d_Model_stack_46 ?_
        have e : md_stack s i = s.1 12 ((8 * ((s.2 10) - 1)) + i).toNatClampNeg := by rw [md_stack, if_neg h_4, if_neg h_8, if_pos h_23]
        rw [e] at h
        exact h
      · rw [if_neg h_23] at ho
        refine wm_iconst (v := 0) C d_Model_stack_26 (by decide) ?_
        refine wm_goto (tgt := 46) C d_Model_stack_27 (by decide) ?_
        refine wm_iret C P d_Model_stack_46 ?_
        have e : md_stack s i = 0 := by rw [md_stack, if_neg h_4, if_neg h_8, if_neg h_23]
        rw [e] at h
        exact h
def md_local (s : md_S) (i : Int32) : Int32 :=
  if (s.2 5) = 0 then
    0
  else
    if i < 0 then
      0
    else
      if i ≤ 7 then
        s.1 13 ((8 * ((s.2 10) - 1)) + i).toNatClampNeg
      else
        0
def md_local_ok (s : md_S) (i : Int32) : Prop :=
  if (s.2 5) = 0 then
    True
  else
    if i < 0 then
      True
    else
      if i ≤ 7 then
        (vp_in ((8 * ((s.2 10) - 1)) + i) 64) ∧ (
        True)
      else
        True
set_option maxHeartbeats 4000000 in
theorem k_local {G : cy_G} {D : md_E} {s : md_S} {M : cy_Hp} {post : Option Value → cy_Hp → Prop} (hD : md_Eo G D) (hR : md_R D s M) (i : Int32) (ho : md_local_ok s i) (h : post (some (.int (md_local s i))) M) : cy_Ct G 0 m_Model_local [.ref D.2.2.2.1, .int i] M 0 0 post := by
  refine cy_Ct.of (by decide) (Nat.le_of_ble_eq_true rfl) ?_
  intro F C P _
  have C : cy_C G F R_Model b_Model_local 2 0 0 0 := C
  have P : cy_P G F (some .int) post 0 0 := P
  unfold md_local_ok at ho
  show WM G F 2 0 0 0 [(0, .ref D.2.2.2.1), (1, .int i)] [] M
  refine wm_aload_n C d_Model_local_0 rfl (j := 0) rfl ?_
  refine wm_get C co_Model hR.1 14 (by decide) fl_Model_108 rfl d_Model_local_1 ?_
  refine wm_if_eq (tgt := 17) C d_Model_local_4 (by decide) (fun (h_4 : (s.2 5) = 0) => ?_) (fun (h_4 : ¬ (s.2 5) = 0) => ?_)
  · rw [if_pos h_4] at ho
    refine wm_iconst (v := 0) C d_Model_local_17 (by decide) ?_
    refine wm_goto (tgt := 37) C d_Model_local_18 (by decide) ?_
    refine wm_iret C P d_Model_local_37 ?_
    have e : md_local s i = 0 := by rw [md_local, if_pos h_4]
    rw [e] at h
    exact h
  · rw [if_neg h_4] at ho
    refine wm_iload_n C d_Model_local_7 rfl (j := 1) rfl ?_
    refine wm_if_lt (tgt := 17) C d_Model_local_8 (by decide) (fun (h_8 : i < 0) => ?_) (fun (h_8 : ¬ i < 0) => ?_)
    · rw [if_pos h_8] at ho
      refine wm_iconst (v := 0) C d_Model_local_17 (by decide) ?_
      refine wm_goto (tgt := 37) C d_Model_local_18 (by decide) ?_
      refine wm_iret C P d_Model_local_37 ?_
      have e : md_local s i = 0 := by rw [md_local, if_neg h_4, if_pos h_8]
      rw [e] at h
      exact h
    · rw [if_neg h_8] at ho
      refine wm_iload_n C d_Model_local_11 rfl (j := 1) rfl ?_
      refine wm_bipush (v := 7) C d_Model_local_12 (by decide) ?_
      refine wm_icmp_le (tgt := 21) C d_Model_local_14 (by decide) (fun (h_14 : i ≤ 7) => ?_) (fun (h_14 : ¬ i ≤ 7) => ?_)
      · rw [if_pos h_14] at ho
        refine wm_aload_n C d_Model_local_21 rfl (j := 0) rfl ?_
        refine wm_get C co_Model hR.1 24 (by decide) fl_Model_51 rfl d_Model_local_22 ?_
        refine wm_bipush (v := 8) C d_Model_local_25 (by decide) ?_
        refine wm_aload_n C d_Model_local_27 rfl (j := 0) rfl ?_
        refine wm_get C co_Model hR.1 19 (by decide) fl_Model_140 rfl d_Model_local_28 ?_
        refine wm_iconst (v := 1) C d_Model_local_31 (by decide) ?_
        refine wm_isub C d_Model_local_32 ?_
        refine wm_imul C d_Model_local_33 ?_
        refine wm_iload_n C d_Model_local_34 rfl (j := 1) rfl ?_
        refine wm_iadd C d_Model_local_35 ?_
        obtain ⟨o1, ho⟩ := ho
        refine wm_iald C (md_arr hR 13 (by decide)) hD.1 o1 d_Model_local_36 ?_
        refine wm_iret C P d_Model_local_37 ?_
        have e : md_local s i = s.1 13 ((8 * ((s.2 10) - 1)) + i).toNatClampNeg := by rw [md_local, if_neg h_4, if_neg h_8, if_pos h_14]
        rw [e] at h
        exact h
      · rw [if_neg h_14] at ho
        refine wm_iconst (v := 0) C d_Model_local_17 (by decide) ?_
        refine wm_goto (tgt := 37) C d_Model_local_18 (by decide) ?_
        refine wm_iret C P d_Model_local_37 ?_
        have e : md_local s i = 0 := by rw [md_local, if_neg h_4, if_neg h_8, if_neg h_14]
        rw [e] at h
        exact h
def md_cell (s : md_S) (k : Int32) (i : Int32) : Int32 :=
  if k < 0 then
    0
  else
    if 8 ≤ k then
      0
    else
      if (s.1 2 k.toNatClampNeg) = 0 then
        0
      else
        if i < 0 then
          0
        else
          if i < 16 then
            s.1 4 ((k * 16) + i).toNatClampNeg
          else
            0
def md_cell_ok (s : md_S) (k : Int32) (i : Int32) : Prop :=
  if k < 0 then
    True
  else
    if 8 ≤ k then
      True
    else
      (vp_in k 8) ∧ (
      if (s.1 2 k.toNatClampNeg) = 0 then
        True
      else
        if i < 0 then
          True
        else
          if i < 16 then
            (vp_in ((k * 16) + i) 128) ∧ (
            True)
          else
            True)
set_option maxHeartbeats 4000000 in
theorem k_cell {G : cy_G} {D : md_E} {s : md_S} {M : cy_Hp} {post : Option Value → cy_Hp → Prop} (hD : md_Eo G D) (hR : md_R D s M) (k : Int32) (i : Int32) (ho : md_cell_ok s k i) (h : post (some (.int (md_cell s k i))) M) : cy_Ct G 0 m_Model_cell [.ref D.2.2.2.1, .int k, .int i] M 0 0 post := by
  refine cy_Ct.of (by decide) (Nat.le_of_ble_eq_true rfl) ?_
  intro F C P _
  have C : cy_C G F R_Model b_Model_cell 3 0 0 0 := C
  have P : cy_P G F (some .int) post 0 0 := P
  unfold md_cell_ok at ho
  show WM G F 3 0 0 0 [(0, .ref D.2.2.2.1), (1, .int k), (2, .int i)] [] M
  refine wm_iload_n C d_Model_cell_0 rfl (j := 1) rfl ?_
  refine wm_if_lt (tgt := 29) C d_Model_cell_1 (by decide) (fun (h_1 : k < 0) => ?_) (fun (h_1 : ¬ k < 0) => ?_)
  · rw [if_pos h_1] at ho
    refine wm_iconst (v := 0) C d_Model_cell_29 (by decide) ?_
    refine wm_goto (tgt := 44) C d_Model_cell_30 (by decide) ?_
    refine wm_iret C P d_Model_cell_44 ?_
    have e : md_cell s k i = 0 := by rw [md_cell, if_pos h_1]
    rw [e] at h
    exact h
  · rw [if_neg h_1] at ho
    refine wm_iload_n C d_Model_cell_4 rfl (j := 1) rfl ?_
    refine wm_bipush (v := 8) C d_Model_cell_5 (by decide) ?_
    refine wm_icmp_ge (tgt := 29) C d_Model_cell_7 (by decide) (fun (h_7 : 8 ≤ k) => ?_) (fun (h_7 : ¬ 8 ≤ k) => ?_)
    · rw [if_pos h_7] at ho
      refine wm_iconst (v := 0) C d_Model_cell_29 (by decide) ?_
      refine wm_goto (tgt := 44) C d_Model_cell_30 (by decide) ?_
      refine wm_iret C P d_Model_cell_44 ?_
      have e : md_cell s k i = 0 := by rw [md_cell, if_neg h_1, if_pos h_7]
      rw [e] at h
      exact h
    · rw [if_neg h_7] at ho
      refine wm_aload_n C d_Model_cell_10 rfl (j := 0) rfl ?_
      refine wm_get C co_Model hR.1 3 (by decide) fl_Model_16 rfl d_Model_cell_11 ?_
      refine wm_iload_n C d_Model_cell_14 rfl (j := 1) rfl ?_
      obtain ⟨o1, ho⟩ := ho
      refine wm_iald C (md_arr hR 2 (by decide)) hD.1 o1 d_Model_cell_15 ?_
      refine wm_if_eq (tgt := 29) C d_Model_cell_16 (by decide) (fun (h_16 : (s.1 2 k.toNatClampNeg) = 0) => ?_) (fun (h_16 : ¬ (s.1 2 k.toNatClampNeg) = 0) => ?_)
      · rw [if_pos h_16] at ho
        refine wm_iconst (v := 0) C d_Model_cell_29 (by decide) ?_
        refine wm_goto (tgt := 44) C d_Model_cell_30 (by decide) ?_
        refine wm_iret C P d_Model_cell_44 ?_
        have e : md_cell s k i = 0 := by rw [md_cell, if_neg h_1, if_neg h_7, if_pos h_16]
        rw [e] at h
        exact h
      · rw [if_neg h_16] at ho
        refine wm_iload_n C d_Model_cell_19 rfl (j := 2) rfl ?_
        refine wm_if_lt (tgt := 29) C d_Model_cell_20 (by decide) (fun (h_20 : i < 0) => ?_) (fun (h_20 : ¬ i < 0) => ?_)
        · rw [if_pos h_20] at ho
          refine wm_iconst (v := 0) C d_Model_cell_29 (by decide) ?_
          refine wm_goto (tgt := 44) C d_Model_cell_30 (by decide) ?_
          refine wm_iret C P d_Model_cell_44 ?_
          have e : md_cell s k i = 0 := by rw [md_cell, if_neg h_1, if_neg h_7, if_neg h_16, if_pos h_20]
          rw [e] at h
          exact h
        · rw [if_neg h_20] at ho
          refine wm_iload_n C d_Model_cell_23 rfl (j := 2) rfl ?_
          refine wm_bipush (v := 16) C d_Model_cell_24 (by decide) ?_
          refine wm_icmp_lt (tgt := 33) C d_Model_cell_26 (by decide) (fun (h_26 : i < 16) => ?_) (fun (h_26 : ¬ i < 16) => ?_)
          · rw [if_pos h_26] at ho
            refine wm_aload_n C d_Model_cell_33 rfl (j := 0) rfl ?_
            refine wm_get C co_Model hR.1 5 (by decide) fl_Model_23 rfl d_Model_cell_34 ?_
            refine wm_iload_n C d_Model_cell_37 rfl (j := 1) rfl ?_
            refine wm_bipush (v := 16) C d_Model_cell_38 (by decide) ?_
            refine wm_imul C d_Model_cell_40 ?_
            refine wm_iload_n C d_Model_cell_41 rfl (j := 2) rfl ?_
            refine wm_iadd C d_Model_cell_42 ?_
            obtain ⟨o2, ho⟩ := ho
            refine wm_iald C (md_arr hR 4 (by decide)) hD.1 o2 d_Model_cell_43 ?_
            refine wm_iret C P d_Model_cell_44 ?_
            have e : md_cell s k i = s.1 4 ((k * 16) + i).toNatClampNeg := by rw [md_cell, if_neg h_1, if_neg h_7, if_neg h_16, if_neg h_20, if_pos h_26]
            rw [e] at h
            exact h
          · rw [if_neg h_26] at ho
            refine wm_iconst (v := 0) C d_Model_cell_29 (by decide) ?_
            refine wm_goto (tgt := 44) C d_Model_cell_30 (by decide) ?_
            refine wm_iret C P d_Model_cell_44 ?_
            have e : md_cell s k i = 0 := by rw [md_cell, if_neg h_1, if_neg h_7, if_neg h_16, if_neg h_20, if_neg h_26]
            rw [e] at h
            exact h
def md_out (s : md_S) (i : Int32) : Int32 :=
  if i < 0 then
    (-1)
  else
    if i < (s.2 12) then
      (s.1 15 i.toNatClampNeg) &&& 255
    else
      (-1)
def md_out_ok (s : md_S) (i : Int32) : Prop :=
  if i < 0 then
    True
  else
    if i < (s.2 12) then
      (vp_in i 64) ∧ (
      True)
    else
      True
set_option maxHeartbeats 4000000 in
theorem k_out {G : cy_G} {D : md_E} {s : md_S} {M : cy_Hp} {post : Option Value → cy_Hp → Prop} (hD : md_Eo G D) (hR : md_R D s M) (i : Int32) (ho : md_out_ok s i) (h : post (some (.int (md_out s i))) M) : cy_Ct G 0 m_Model_out [.ref D.2.2.2.1, .int i] M 0 0 post := by
  refine cy_Ct.of (by decide) (Nat.le_of_ble_eq_true rfl) ?_
  intro F C P _
  have C : cy_C G F R_Model b_Model_out 2 0 0 0 := C
  have P : cy_P G F (some .int) post 0 0 := P
  unfold md_out_ok at ho
  show WM G F 2 0 0 0 [(0, .ref D.2.2.2.1), (1, .int i)] [] M
  refine wm_iload_n C d_Model_out_0 rfl (j := 1) rfl ?_
  refine wm_if_lt (tgt := 12) C d_Model_out_1 (by decide) (fun (h_1 : i < 0) => ?_) (fun (h_1 : ¬ i < 0) => ?_)
  · rw [if_pos h_1] at ho
    refine wm_iconst (v := -1) C d_Model_out_12 (by decide) ?_
    refine wm_goto (tgt := 26) C d_Model_out_13 (by decide) ?_
    refine wm_iret C P d_Model_out_26 ?_
    have e : md_out s i = (-1) := by rw [md_out, if_pos h_1]
    rw [e] at h
    exact h
  · rw [if_neg h_1] at ho
    refine wm_iload_n C d_Model_out_4 rfl (j := 1) rfl ?_
    refine wm_aload_n C d_Model_out_5 rfl (j := 0) rfl ?_
    refine wm_get C co_Model hR.1 28 (by decide) fl_Model_122 rfl d_Model_out_6 ?_
    refine wm_icmp_lt (tgt := 16) C d_Model_out_9 (by decide) (fun (h_9 : i < (s.2 12)) => ?_) (fun (h_9 : ¬ i < (s.2 12)) => ?_)
    · rw [if_pos h_9] at ho
      refine wm_aload_n C d_Model_out_16 rfl (j := 0) rfl ?_
      refine wm_get C co_Model hR.1 27 (by decide) fl_Model_57 rfl d_Model_out_17 ?_
      refine wm_iload_n C d_Model_out_20 rfl (j := 1) rfl ?_
      obtain ⟨o1, ho⟩ := ho
      refine wm_bald C (md_arr hR 15 (by decide)) hD.2.1 o1 d_Model_out_21 ?_
      refine wm_sipush (v := 255) C d_Model_out_22 (by decide) ?_
      refine wm_iand C d_Model_out_25 ?_
      refine wm_iret C P d_Model_out_26 ?_
      have e : md_out s i = (s.1 15 i.toNatClampNeg) &&& 255 := by rw [md_out, if_neg h_1, if_pos h_9]
      rw [e] at h
      exact h
    · rw [if_neg h_9] at ho
      refine wm_iconst (v := -1) C d_Model_out_12 (by decide) ?_
      refine wm_goto (tgt := 26) C d_Model_out_13 (by decide) ?_
      refine wm_iret C P d_Model_out_26 ?_
      have e : md_out s i = (-1) := by rw [md_out, if_neg h_1, if_neg h_9]
      rw [e] at h
      exact h
def md_height (s : md_S) (k : Int32) (p : Int32) : Int32 :=
  if k < 0 then
    (-1)
  else
    if 8 ≤ k then
      (-1)
    else
      if (s.1 2 k.toNatClampNeg) = 0 then
        (-1)
      else
        if p < 0 then
          (-1)
        else
          if p < (s.1 2 k.toNatClampNeg) then
            s.1 3 ((k * 256) + p).toNatClampNeg
          else
            (-1)
def md_height_ok (s : md_S) (k : Int32) (p : Int32) : Prop :=
  if k < 0 then
    True
  else
    if 8 ≤ k then
      True
    else
      (vp_in k 8) ∧ (
      if (s.1 2 k.toNatClampNeg) = 0 then
        True
      else
        if p < 0 then
          True
        else
          (vp_in k 8) ∧ (
          if p < (s.1 2 k.toNatClampNeg) then
            (vp_in ((k * 256) + p) 2048) ∧ (
            True)
          else
            True))
set_option maxHeartbeats 4000000 in
theorem k_height {G : cy_G} {D : md_E} {s : md_S} {M : cy_Hp} {post : Option Value → cy_Hp → Prop} (hD : md_Eo G D) (hR : md_R D s M) (k : Int32) (p : Int32) (ho : md_height_ok s k p) (h : post (some (.int (md_height s k p))) M) : cy_Ct G 0 m_Model_height [.ref D.2.2.2.1, .int k, .int p] M 0 0 post := by
  refine cy_Ct.of (by decide) (Nat.le_of_ble_eq_true rfl) ?_
  intro F C P _
  have C : cy_C G F R_Model b_Model_height 3 0 0 0 := C
  have P : cy_P G F (some .int) post 0 0 := P
  unfold md_height_ok at ho
  show WM G F 3 0 0 0 [(0, .ref D.2.2.2.1), (1, .int k), (2, .int p)] [] M
  refine wm_iload_n C d_Model_height_0 rfl (j := 1) rfl ?_
  refine wm_if_lt (tgt := 33) C d_Model_height_1 (by decide) (fun (h_1 : k < 0) => ?_) (fun (h_1 : ¬ k < 0) => ?_)
  · rw [if_pos h_1] at ho
    refine wm_iconst (v := -1) C d_Model_height_33 (by decide) ?_
    refine wm_goto (tgt := 49) C d_Model_height_34 (by decide) ?_
    refine wm_iret C P d_Model_height_49 ?_
    have e : md_height s k p = (-1) := by rw [md_height, if_pos h_1]
    rw [e] at h
    exact h
  · rw [if_neg h_1] at ho
    refine wm_iload_n C d_Model_height_4 rfl (j := 1) rfl ?_
    refine wm_bipush (v := 8) C d_Model_height_5 (by decide) ?_
    refine wm_icmp_ge (tgt := 33) C d_Model_height_7 (by decide) (fun (h_7 : 8 ≤ k) => ?_) (fun (h_7 : ¬ 8 ≤ k) => ?_)
    · rw [if_pos h_7] at ho
      refine wm_iconst (v := -1) C d_Model_height_33 (by decide) ?_
      refine wm_goto (tgt := 49) C d_Model_height_34 (by decide) ?_
      refine wm_iret C P d_Model_height_49 ?_
      have e : md_height s k p = (-1) := by rw [md_height, if_neg h_1, if_pos h_7]
      rw [e] at h
      exact h
    · rw [if_neg h_7] at ho
      refine wm_aload_n C d_Model_height_10 rfl (j := 0) rfl ?_
      refine wm_get C co_Model hR.1 3 (by decide) fl_Model_16 rfl d_Model_height_11 ?_
      refine wm_iload_n C d_Model_height_14 rfl (j := 1) rfl ?_
      obtain ⟨o1, ho⟩ := ho
      refine wm_iald C (md_arr hR 2 (by decide)) hD.1 o1 d_Model_height_15 ?_
      refine wm_if_eq (tgt := 33) C d_Model_height_16 (by decide) (fun (h_16 : (s.1 2 k.toNatClampNeg) = 0) => ?_) (fun (h_16 : ¬ (s.1 2 k.toNatClampNeg) = 0) => ?_)
      · rw [if_pos h_16] at ho
        refine wm_iconst (v := -1) C d_Model_height_33 (by decide) ?_
        refine wm_goto (tgt := 49) C d_Model_height_34 (by decide) ?_
        refine wm_iret C P d_Model_height_49 ?_
        have e : md_height s k p = (-1) := by rw [md_height, if_neg h_1, if_neg h_7, if_pos h_16]
        rw [e] at h
        exact h
      · rw [if_neg h_16] at ho
        refine wm_iload_n C d_Model_height_19 rfl (j := 2) rfl ?_
        refine wm_if_lt (tgt := 33) C d_Model_height_20 (by decide) (fun (h_20 : p < 0) => ?_) (fun (h_20 : ¬ p < 0) => ?_)
        · rw [if_pos h_20] at ho
          refine wm_iconst (v := -1) C d_Model_height_33 (by decide) ?_
          refine wm_goto (tgt := 49) C d_Model_height_34 (by decide) ?_
          refine wm_iret C P d_Model_height_49 ?_
          have e : md_height s k p = (-1) := by rw [md_height, if_neg h_1, if_neg h_7, if_neg h_16, if_pos h_20]
          rw [e] at h
          exact h
        · rw [if_neg h_20] at ho
          refine wm_iload_n C d_Model_height_23 rfl (j := 2) rfl ?_
          refine wm_aload_n C d_Model_height_24 rfl (j := 0) rfl ?_
          refine wm_get C co_Model hR.1 3 (by decide) fl_Model_16 rfl d_Model_height_25 ?_
          refine wm_iload_n C d_Model_height_28 rfl (j := 1) rfl ?_
          obtain ⟨o2, ho⟩ := ho
          refine wm_iald C (md_arr hR 2 (by decide)) hD.1 o2 d_Model_height_29 ?_
          refine wm_icmp_lt (tgt := 37) C d_Model_height_30 (by decide) (fun (h_30 : p < (s.1 2 k.toNatClampNeg)) => ?_) (fun (h_30 : ¬ p < (s.1 2 k.toNatClampNeg)) => ?_)
          · rw [if_pos h_30] at ho
            refine wm_aload_n C d_Model_height_37 rfl (j := 0) rfl ?_
            refine wm_get C co_Model hR.1 4 (by decide) fl_Model_20 rfl d_Model_height_38 ?_
            refine wm_iload_n C d_Model_height_41 rfl (j := 1) rfl ?_
            refine wm_sipush (v := 256) C d_Model_height_42 (by decide) ?_
            refine wm_imul C d_Model_height_45 ?_
            refine wm_iload_n C d_Model_height_46 rfl (j := 2) rfl ?_
            refine wm_iadd C d_Model_height_47 ?_
            obtain ⟨o3, ho⟩ := ho
            refine wm_iald C (md_arr hR 3 (by decide)) hD.1 o3 d_Model_height_48 ?_
            refine wm_iret C P d_Model_height_49 ?_
            have e : md_height s k p = s.1 3 ((k * 256) + p).toNatClampNeg := by rw [md_height, if_neg h_1, if_neg h_7, if_neg h_16, if_neg h_20, if_pos h_30]
            rw [e] at h
            exact h
          · rw [if_neg h_30] at ho
            refine wm_iconst (v := -1) C d_Model_height_33 (by decide) ?_
            refine wm_goto (tgt := 49) C d_Model_height_34 (by decide) ?_
            refine wm_iret C P d_Model_height_49 ?_
            have e : md_height s k p = (-1) := by rw [md_height, if_neg h_1, if_neg h_7, if_neg h_16, if_neg h_20, if_neg h_30]
            rw [e] at h
            exact h
def md_size (s : md_S) (k : Int32) : Int32 :=
  if k < 0 then
    (-1)
  else
    if 8 ≤ k then
      (-1)
    else
      if (s.1 2 k.toNatClampNeg) = 0 then
        (-1)
      else
        s.1 2 k.toNatClampNeg
def md_size_ok (s : md_S) (k : Int32) : Prop :=
  if k < 0 then
    True
  else
    if 8 ≤ k then
      True
    else
      (vp_in k 8) ∧ (
      if (s.1 2 k.toNatClampNeg) = 0 then
        True
      else
        (vp_in k 8) ∧ (
        True))
set_option maxHeartbeats 4000000 in
theorem k_size {G : cy_G} {D : md_E} {s : md_S} {M : cy_Hp} {post : Option Value → cy_Hp → Prop} (hD : md_Eo G D) (hR : md_R D s M) (k : Int32) (ho : md_size_ok s k) (h : post (some (.int (md_size s k))) M) : cy_Ct G 0 m_Model_size [.ref D.2.2.2.1, .int k] M 0 0 post := by
  refine cy_Ct.of (by decide) (Nat.le_of_ble_eq_true rfl) ?_
  intro F C P _
  have C : cy_C G F R_Model b_Model_size 2 0 0 0 := C
  have P : cy_P G F (some .int) post 0 0 := P
  unfold md_size_ok at ho
  show WM G F 2 0 0 0 [(0, .ref D.2.2.2.1), (1, .int k)] [] M
  refine wm_iload_n C d_Model_size_0 rfl (j := 1) rfl ?_
  refine wm_if_lt (tgt := 19) C d_Model_size_1 (by decide) (fun (h_1 : k < 0) => ?_) (fun (h_1 : ¬ k < 0) => ?_)
  · rw [if_pos h_1] at ho
    refine wm_iconst (v := -1) C d_Model_size_19 (by decide) ?_
    refine wm_goto (tgt := 29) C d_Model_size_20 (by decide) ?_
    refine wm_iret C P d_Model_size_29 ?_
    have e : md_size s k = (-1) := by rw [md_size, if_pos h_1]
    rw [e] at h
    exact h
  · rw [if_neg h_1] at ho
    refine wm_iload_n C d_Model_size_4 rfl (j := 1) rfl ?_
    refine wm_bipush (v := 8) C d_Model_size_5 (by decide) ?_
    refine wm_icmp_ge (tgt := 19) C d_Model_size_7 (by decide) (fun (h_7 : 8 ≤ k) => ?_) (fun (h_7 : ¬ 8 ≤ k) => ?_)
    · rw [if_pos h_7] at ho
      refine wm_iconst (v := -1) C d_Model_size_19 (by decide) ?_
      refine wm_goto (tgt := 29) C d_Model_size_20 (by decide) ?_
      refine wm_iret C P d_Model_size_29 ?_
      have e : md_size s k = (-1) := by rw [md_size, if_neg h_1, if_pos h_7]
      rw [e] at h
      exact h
    · rw [if_neg h_7] at ho
      refine wm_aload_n C d_Model_size_10 rfl (j := 0) rfl ?_
      refine wm_get C co_Model hR.1 3 (by decide) fl_Model_16 rfl d_Model_size_11 ?_
      refine wm_iload_n C d_Model_size_14 rfl (j := 1) rfl ?_
      obtain ⟨o1, ho⟩ := ho
      refine wm_iald C (md_arr hR 2 (by decide)) hD.1 o1 d_Model_size_15 ?_
      refine wm_if_ne (tgt := 23) C d_Model_size_16 (by decide) (fun (h_16 : ¬ (s.1 2 k.toNatClampNeg) = 0) => ?_) (fun (h_16 : (s.1 2 k.toNatClampNeg) = 0) => ?_)
      · rw [if_neg h_16] at ho
        refine wm_aload_n C d_Model_size_23 rfl (j := 0) rfl ?_
        refine wm_get C co_Model hR.1 3 (by decide) fl_Model_16 rfl d_Model_size_24 ?_
        refine wm_iload_n C d_Model_size_27 rfl (j := 1) rfl ?_
        obtain ⟨o2, ho⟩ := ho
        refine wm_iald C (md_arr hR 2 (by decide)) hD.1 o2 d_Model_size_28 ?_
        refine wm_iret C P d_Model_size_29 ?_
        have e : md_size s k = s.1 2 k.toNatClampNeg := by rw [md_size, if_neg h_1, if_neg h_7, if_neg h_16]
        rw [e] at h
        exact h
      · rw [if_pos h_16] at ho
        refine wm_iconst (v := -1) C d_Model_size_19 (by decide) ?_
        refine wm_goto (tgt := 29) C d_Model_size_20 (by decide) ?_
        refine wm_iret C P d_Model_size_29 ?_
        have e : md_size s k = (-1) := by rw [md_size, if_neg h_1, if_neg h_7, if_pos h_16]
        rw [e] at h
        exact h
